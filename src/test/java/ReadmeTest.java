import java.lang.reflect.InvocationTargetException;
import java.lang.reflect.Method;
import java.lang.reflect.Modifier;
import java.nio.file.Files;
import java.nio.file.Path;
import java.util.Map;
import java.util.Set;
import java.util.TreeMap;
import java.util.TreeSet;
import java.util.regex.Matcher;
import java.util.regex.Pattern;

/** README.md walks through all calls on one object: they are made here, in its order, and must answer as it says. */
public final class ReadmeTest {
    private static final Pattern BLOCK = Pattern.compile("(?s)```java\n(.*?)```");
    private static final Pattern CALL = Pattern.compile(
            "x\\.(\\w+)\\(([^()]*)\\);(?:\\s*// (throws \\w+|-?\\w+)(?:: .*)?)?");
    private static final Pattern TEXT = Pattern.compile(
            "tell\\(x, \"([^\"]*)\"\\);(?:\\s*// (throws \\w+|-?\\w+)(?:: .*)?)?");
    private static final Map<String, Method> FACE = new TreeMap<>();
    private static final Set<String> USED = new TreeSet<>();
    private static int made = 0;
    private static int checked = 0;
    private static int wrong = 0;

    public static void main(String[] args) throws Exception {
        for (Method m : StillLoops.class.getDeclaredMethods()) {
            if (Modifier.isPublic(m.getModifiers())) {
                FACE.put(m.getName(), m);
            }
        }
        String readme = Files.readString(Path.of("README.md"));
        walk(readme);
        for (String name : FACE.keySet()) {
            check(USED.contains(name), "README.md does not call " + name);
        }
        check(made <= 512, "README.md makes " + made + " calls on one object");
        check(plain(readme).contains(helper()), "README.md shows another tell than this test uses");
        System.out.println(checked + " answers of README.md, " + wrong + " wrong");
        System.exit(wrong > 0 ? 1 : 0);
    }

    private static void walk(String readme) throws Exception {
        StillLoops x = new StillLoops();
        Matcher blocks = BLOCK.matcher(readme);
        while (blocks.find()) {
            if (blocks.group(1).startsWith("static int tell(")) {
                continue;
            }
            for (String line : blocks.group(1).split("\n")) {
                follow(x, line.strip());
            }
        }
    }

    private static void follow(StillLoops x, String line) throws Exception {
        Matcher call = CALL.matcher(line);
        Matcher text = TEXT.matcher(line);
        if (call.matches() && FACE.containsKey(call.group(1))) {
            USED.add(call.group(1));
            answered(line, call.group(3), answer(x, FACE.get(call.group(1)), call.group(2)));
        } else if (text.matches()) {
            answered(line, text.group(2), told(x, text.group(1)));
        } else {
            check(line.isEmpty() || line.startsWith("//") || line.equals("StillLoops x = new StillLoops();"),
                    "README.md has a line that cannot be followed: " + line);
        }
    }

    private static void answered(String line, String want, String got) {
        if (want != null) {
            checked++;
            check((want.equals("NONE") ? String.valueOf(StillLoops.NONE) : want).equals(got), line + " answered " + got);
        }
    }

    private static String answer(StillLoops x, Method m, String written) throws Exception {
        String[] parts = written.isBlank() ? new String[0] : written.split(",");
        Class<?>[] types = m.getParameterTypes();
        if (parts.length != types.length) {
            return parts.length + " arguments";
        }
        Object[] given = new Object[parts.length];
        for (int k = 0; k < parts.length; k++) {
            given[k] = types[k] == boolean.class ? (Object) Boolean.valueOf(parts[k].strip())
                    : (Object) Integer.decode(parts[k].strip());
        }
        made++;
        try {
            return String.valueOf(m.invoke(x, given));
        } catch (InvocationTargetException e) {
            return "throws " + e.getCause().getClass().getSimpleName();
        }
    }

    private static String told(StillLoops x, String text) {
        made += (text.length() + 19) / 20 + 2;
        try {
            return String.valueOf(tell(x, text));
        } catch (RuntimeException e) {
            return "throws " + e.getClass().getSimpleName();
        }
    }

    static int tell(StillLoops x, String text) {
        for (int at = 0; at < text.length(); at += 20) {
            int[] w = new int[5];
            for (int k = at; k < Math.min(at + 20, text.length()); k++) {
                w[(k - at) / 4] |= text.charAt(k) << 24 - 8 * (k % 4);
            }
            x.feed(w[0], w[1], w[2], w[3], w[4]);
        }
        x.end(text.length());
        return x.bench();
    }

    private static String helper() throws Exception {
        String source = Files.readString(Path.of("src/test/java/ReadmeTest.java"));
        int from = source.indexOf("    static int tell(");
        return plain(source.substring(from, source.indexOf("\n    }\n", from) + 7));
    }

    private static String plain(String code) {
        return code.strip().replaceAll("\\s+", " ");
    }

    private static void check(boolean good, String what) {
        if (!good) {
            wrong++;
            System.out.println(what);
        }
    }
}
