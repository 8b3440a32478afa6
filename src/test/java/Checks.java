import java.nio.charset.StandardCharsets;
import java.util.NoSuchElementException;

/** What the tests of promises share: calls with the answers that are due, and texts told to an object. */
abstract class Checks {
    /** A call whose answer, or whose exception, is looked at. */
    interface Call {
        long answer();
    }

    static final long INDEX = Long.MIN_VALUE;
    static final long ARGUMENT = Long.MIN_VALUE + 1;
    static final long STATE = Long.MIN_VALUE + 2;
    static final long ELEMENT = Long.MIN_VALUE + 3;
    static final long UNSUPPORTED = Long.MIN_VALUE + 4;
    static final int NONE = StillLoops.NONE;
    static final String LAG = "loop lag gain 256 tau 0 low -100 high 100";

    static int checks = 0;
    static int wrong = 0;
    static int promise = 0;

    static void finish(String of) {
        System.out.println(checks + " " + of + ", " + wrong + " of them wrong");
        System.exit(wrong > 0 ? 1 : 0);
    }

    static void due(String what, long want, Call call) {
        checks++;
        long got;
        try {
            got = call.answer();
        } catch (RuntimeException e) {
            got = codeOf(e);
        }
        if (got != want) {
            wrong++;
            System.out.println("promise " + promise + ", " + what + ": answered " + got + ", due is " + want);
        }
    }

    static long codeOf(RuntimeException e) {
        if (e.getClass() == IndexOutOfBoundsException.class) {
            return INDEX;
        }
        if (e.getClass() == IllegalArgumentException.class) {
            return ARGUMENT;
        }
        if (e.getClass() == IllegalStateException.class) {
            return STATE;
        }
        if (e.getClass() == NoSuchElementException.class) {
            return ELEMENT;
        }
        if (e.getClass() == UnsupportedOperationException.class) {
            return UNSUPPORTED;
        }
        throw e;
    }

    static long bit(boolean is) {
        return is ? 1 : 0;
    }

    static void tape(StillLoops x, String text) {
        byte[] bytes = text.getBytes(StandardCharsets.ISO_8859_1);
        int[] words = new int[(bytes.length + 19) / 20 * 5];
        for (int k = 0; k < bytes.length; k++) {
            words[k / 4] |= (bytes[k] & 255) << 24 - 8 * (k % 4);
        }
        for (int k = 0; k < words.length; k += 5) {
            x.feed(words[k], words[k + 1], words[k + 2], words[k + 3], words[k + 4]);
        }
        x.end(bytes.length);
    }

    static void tell(StillLoops x, String... texts) {
        for (String text : texts) {
            tape(x, text);
            x.bench();
        }
    }

    static StillLoops told(String... texts) {
        StillLoops x = new StillLoops();
        tell(x, texts);
        return x;
    }

    static void faultAt(StillLoops x, String text, int where) {
        due("'" + text + "'", where == NONE ? x.count(1) + 1 : ARGUMENT, () -> {
            tape(x, text);
            return x.bench();
        });
        due("fault of '" + text + "'", where, x::fault);
    }

    /** All that can be asked of an object, in some 300 calls; it stays as it was. */
    static String seen(StillLoops x) {
        StringBuilder all = new StringBuilder("fault " + x.fault() + " counts");
        for (int what = 0; what <= 4; what++) {
            all.append(' ').append(x.count(what));
        }
        for (int what = 0; what <= 8; what++) {
            all.append(" which ").append(x.which(what));
        }
        for (int k = 0; k < x.count(3); k++) {
            for (int what = 0; what <= 3; what++) {
                all.append(" event ").append(x.event(k, what));
            }
        }
        for (int ago = 0; ago < Math.min(8, x.count(4)); ago++) {
            for (int what = 0; what <= 3; what++) {
                all.append(" log ").append(x.log(ago, what));
            }
        }
        for (int k = 0; k < x.count(0); k++) {
            all.append(seenOf(x, k));
        }
        return all.toString();
    }

    private static String seenOf(StillLoops x, int k) {
        StringBuilder all = new StringBuilder("; loop");
        for (int what = 0; what <= 20; what++) {
            all.append(' ').append(x.loop(k, what));
        }
        for (int what = 0; what <= 5; what++) {
            all.append(" inner ").append(x.inner(k, what)).append(" weight ").append(x.weight(k, what));
        }
        for (int set = 0; set < x.loop(k, 14); set++) {
            for (int what = 0; what <= 3; what++) {
                all.append(" gain ").append(x.gain(k, set, what));
            }
        }
        for (int trip = 0; trip <= 3; trip++) {
            all.append(" trip ").append(x.trip(k, trip)).append(' ').append(x.whose(k, trip));
        }
        // FEEDS, CURVE and what a RELAY test has show in what is ahead.
        return all.append(" ahead ").append(x.ahead(k, 9, false)).append(' ').append(x.ahead(k, 60, true)).toString();
    }

    static void same(String what, String want, String got) {
        checks++;
        if (!want.equals(got)) {
            wrong++;
            System.out.println("promise " + promise + ", " + what + ": is now\n  " + got + "\nand was\n  " + want);
        }
    }

    static void ticks(StillLoops x, int n) {
        for (int left = n; left > 0; left -= 60) {
            x.ticks(Math.min(60, left));
        }
    }
}
