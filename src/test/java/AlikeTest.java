import java.lang.reflect.InvocationTargetException;
import java.lang.reflect.Method;
import java.nio.charset.StandardCharsets;
import java.util.ArrayList;
import java.util.Arrays;
import java.util.Comparator;
import java.util.List;
import java.util.Random;

/** Random runs of calls, always the same ones: the class and the oracle answer alike. */
public final class AlikeTest {
    private static final List<Method> CALLS = new ArrayList<>();
    private static int told = 0;
    private final Random dice;
    private final StillLoops real = new StillLoops();
    private final Oracle due = new Oracle();
    private final List<String> run = new ArrayList<>();
    /** Loops that answer at once, so that many swing in short rounds. */
    private final boolean brisk;
    private int loops = 0;
    private boolean alike = true;

    private AlikeTest(long seed) {
        dice = new Random(seed);
        brisk = seed % 3 == 0;
    }

    public static void main(String[] args) throws Exception {
        int runs = args.length > 0 ? Integer.parseInt(args[0]) : 1500;
        long from = args.length > 1 ? Long.parseLong(args[1]) : 0;
        for (Method m : StillLoops.class.getDeclaredMethods()) {
            if (java.lang.reflect.Modifier.isPublic(m.getModifiers())) {
                CALLS.add(m);
            }
        }
        CALLS.sort(Comparator.comparing(Method::getName));
        int wrong = 0;
        for (long seed = from; seed < from + runs; seed++) {
            AlikeTest test = new AlikeTest(seed);
            test.go();
            if (!test.alike) {
                wrong++;
                if (told++ < 3) {
                    System.out.println("seed " + seed);
                    test.run.forEach(System.out::println);
                }
            }
        }
        System.out.println(runs + " random runs, " + wrong + " of them unlike");
        System.exit(wrong > 0 ? 1 : 0);
    }

    private int roll(int below) {
        return dice.nextInt(below);
    }

    private void go() throws Exception {
        int calls = 20 + roll(100);
        text(goodText(true));
        if (roll(3) > 0) {
            rouse();
        }
        for (int k = 0; k < calls && alike; k++) {
            int kind = roll(20);
            if (kind < 2) {
                text(roll(3) == 0 ? goodText(roll(3) == 0) : spoilt(goodText(roll(2) == 0)));
            } else if (kind < 6) {
                call("ticks", 1 + roll(roll(3) == 0 ? 60 : 6));
            } else if (kind < 8) {
                call("mode", roll(loops + 1), roll(3));
            } else if (kind < 9 && loops > 0) {
                call("relay", roll(loops), 1 + roll(10), roll(3));
            } else if (kind < 11) {
                call("twin", roll(61));
            } else if (kind < 12 && roll(4) == 0) {
                rouse();
            } else {
                any();
            }
        }
    }

    /** All loops into AUTO, or CASCADE where that can be. */
    private void rouse() throws Exception {
        for (int k = 0; k < loops; k++) {
            if (due.loop(k, 8) != 2) {
                call("set", k, roll(21) - 10);
            }
            call("mode", k, due.loop(k, 7) == StillLoops.NONE || roll(4) == 0 ? 1 : 2);
        }
    }

    private void any() throws Exception {
        Method m = CALLS.get(roll(CALLS.size()));
        while (brisk && roll(2) == 0 && !m.getName().matches("round|starts|sweep|load|step|mode")) {
            m = CALLS.get(roll(CALLS.size()));
        }
        String name = m.getName();
        if (name.equals("feed") || name.equals("end") || name.equals("bench")) {
            return;
        }
        Object[] args = new Object[m.getParameterCount()];
        for (int k = 0; k < args.length; k++) {
            if (m.getParameterTypes()[k] == boolean.class) {
                args[k] = roll(2) == 0;
            } else if (k == 0 && args.length > 1 && !name.equals("event") && !name.equals("log")) {
                args[k] = roll(15) == 0 ? roll(7) - 1 : roll(Math.max(1, loops));
            } else {
                args[k] = number(name, k);
            }
        }
        call(name, args);
    }

    private int number(String name, int k) {
        if (roll(12) == 0) {
            return List.of(-1, 0, 60, 61, 999, 1000, -999, -1000, 9999, 10000, -9999, Integer.MIN_VALUE,
                    Integer.MAX_VALUE).get(roll(13));
        }
        switch (name) {
            case "loop": return roll(22);
            case "inner": return roll(7);
            case "flow": case "out": return roll(40) - 20;
            case "set": return roll(2) == 0 ? roll(20) - 5 : roll(400) - 200;
            case "gains": return roll(roll(2) == 0 ? 1000 : 10001);
            case "load": return roll(41) - 20;
            case "step": return k == 1 ? roll(60) - 30 : roll(4);
            case "twin": case "ahead": case "peak": case "hunts": case "worst": return roll(62);
            case "which": return roll(10);
            case "relay": return roll(8);
            case "sweep": return roll(5);
            default: return roll(6) - (roll(6) == 0 ? 1 : 0);
        }
    }

    private void call(String name, Object... args) throws Exception {
        String got = answer(real, name, args);
        String want = answer(due, name, args);
        run.add(name + Arrays.toString(args) + " -> " + got + (got.equals(want) ? "" : ", due is " + want));
        alike &= got.equals(want);
        if (name.equals("bench") || name.equals("back")) {
            loops = due.count(0);
        }
    }

    private static String answer(Object on, String name, Object[] args) throws Exception {
        Method found = null;
        for (Method m : on.getClass().getDeclaredMethods()) {
            if (m.getName().equals(name) && m.getParameterCount() == args.length
                    && java.lang.reflect.Modifier.isPublic(m.getModifiers())) {
                found = m;
            }
        }
        found.setAccessible(true);
        try {
            return String.valueOf(found.invoke(on, args));
        } catch (InvocationTargetException e) {
            if (e.getCause().getClass() == IndexOutOfBoundsException.class
                    || !(e.getCause() instanceof IndexOutOfBoundsException)) {
                return e.getCause().getClass().getName();
            }
            return "the machine threw " + e.getCause();
        }
    }

    private void text(String text) throws Exception {
        byte[] bytes = text.getBytes(StandardCharsets.ISO_8859_1);
        run.add("\"" + text + "\"");
        for (int k = 0; k < bytes.length; k += 20) {
            Object[] five = new Object[5];
            for (int w = 0; w < 5; w++) {
                int word = 0;
                for (int b = 0; b < 4; b++) {
                    int at = k + 4 * w + b;
                    word = word << 8 | (at < bytes.length ? bytes[at] & 255 : 0);
                }
                five[w] = word;
            }
            call("feed", five);
        }
        call("end", bytes.length);
        call("bench");
        call("fault");
    }

    private String goodText(boolean withLoops) {
        List<String> lines = new ArrayList<>();
        int there = loops;
        int more = withLoops ? 1 + roll(3) : 0;
        for (int k = 0; k < more && there < (roll(8) == 0 ? 5 : 4); k++) {
            lines.add(brisk ? briskLine(there) : loopLine(there));
            there++;
        }
        for (int k = roll(6); k > 0; k--) {
            int l = there == 0 ? 0 : roll(there);
            if (brisk && roll(2) == 0) {
                lines.add("gains " + l + " kp " + 64 * roll(8) + " ki " + 512 * roll(3) + " kd " + 64 * roll(3)
                        + ";law " + l + " filter " + roll(3) + " back 0");
                continue;
            }
            switch (roll(5)) {
                case 0: lines.add("law " + l + opt(" b ", 257) + opt(" c ", 257) + opt(" filter ", 9)
                        + opt(" back ", 257) + opt(" stick ", 5) + opt(" hyst ", 5)); break;
                case 1: case 2: lines.add("gains " + l + (roll(2) == 0 ? " from " + (roll(40) - 15) : "") + " kp "
                        + roll(1500) + " ki " + roll(1500) + " kd " + roll(roll(2) == 0 ? 1 : 1500)); break;
                case 3: StringBuilder c = new StringBuilder("curve " + l);
                    for (int n = 2 + roll(7); n > 0; n--) {
                        c.append(' ').append(roll(roll(2) == 0 ? 30 : 1000));
                    }
                    lines.add(c.toString()); break;
                default: lines.add("at " + (due.count(2) + roll(30)) + what(l)); break;
            }
        }
        String text = String.join(roll(2) == 0 ? ";" : " ; ", lines);
        return text.length() > 400 ? text.substring(0, text.lastIndexOf(';', 399)) : text;
    }

    private String loopLine(int there) {
        int low = roll(3) == 0 ? roll(10) : -roll(40);
        return "loop " + List.of("lag", "level", "slow").get(roll(3)) + " gain " + (roll(3) == 0 ? 256 : roll(1000))
                + " tau " + roll(9) / (1 + roll(3)) + " low " + low + " high " + (low + 1 + roll(60))
                + opt(" late ", 9) + (there > 0 && roll(3) > 0 ? " on " + roll(there) : "");
    }

    private String briskLine(int there) {
        return "loop " + List.of("lag", "level", "slow").get(roll(3)) + " gain 256 tau " + roll(8) / 6 + " low "
                + -roll(11) + " high " + (1 + roll(10)) + (roll(2) == 0 ? " late " + roll(3) : "")
                + (there > 0 && roll(3) == 0 ? " on " + roll(there) : "");
    }

    private String what(int l) {
        switch (roll(5)) {
            case 0: return " set " + l + " " + (roll(40) - 20);
            case 1: return " load " + l + " " + (roll(40) - 20);
            case 2: return " lost " + l;
            case 3: return " found " + l;
            default: return " mode " + l + " " + List.of("manual", "auto", "cascade").get(roll(3));
        }
    }

    private String opt(String word, int below) {
        return roll(2) == 0 ? "" : word + roll(below);
    }

    private String spoilt(String text) {
        StringBuilder t = new StringBuilder(text);
        for (int k = 1 + roll(2); k > 0; k--) {
            int at = roll(t.length() + 1);
            String bit = List.of(" ", ";", "-", "9", "99999", "x", "on 0", "law 0;", "- 5", "Q", "\0", "\u00e9",
                    "at 0 lost 0;", "late", "1").get(roll(15));
            switch (roll(4)) {
                case 0: t.insert(at, bit); break;
                case 1: if (at < t.length()) { t.deleteCharAt(at); } break;
                case 2: t.setLength(at); break;
                default: if (at < t.length()) { t.replace(at, at + 1, bit); } break;
            }
        }
        return t.length() > 400 ? t.substring(0, 400) : t.toString();
    }
}
