import java.nio.charset.StandardCharsets;
import java.util.NoSuchElementException;

/** What the tests of promises share: calls with the answers that are due, and texts told to an object. */
abstract class Checks {
    /** A call whose answer, or whose exception, is looked at. */
    interface Call {
        long answer();
    }

    static final long INDEX = Long.MIN_VALUE;
    static final long ARGUMENT = Long.MIN_VALUE + 1;
    static final long STATE = Long.MIN_VALUE + 2;
    static final long ELEMENT = Long.MIN_VALUE + 3;
    static final long UNSUPPORTED = Long.MIN_VALUE + 4;
    static final int NONE = StillLoops.NONE;
    static final String LAG = "loop lag gain 256 tau 0 low -100 high 100";

    static int checks = 0;
    static int wrong = 0;
    static int promise = 0;

    static void finish(String of) {
        System.out.println(checks + " " + of + ", " + wrong + " of them wrong");
        System.exit(wrong > 0 ? 1 : 0);
    }

    static void due(String what, long want, Call call) {
        checks++;
        long got;
        try {
            got = call.answer();
        } catch (RuntimeException e) {
            got = codeOf(e);
        }
        if (got != want) {
            wrong++;
            System.out.println("promise " + promise + ", " + what + ": answered " + got + ", due is " + want);
        }
    }

    static long codeOf(RuntimeException e) {
        if (e.getClass() == IndexOutOfBoundsException.class) {
            return INDEX;
        }
        if (e.getClass() == IllegalArgumentException.class) {
            return ARGUMENT;
        }
        if (e.getClass() == IllegalStateException.class) {
            return STATE;
        }
        if (e.getClass() == NoSuchElementException.class) {
            return ELEMENT;
        }
        if (e.getClass() == UnsupportedOperationException.class) {
            return UNSUPPORTED;
        }
        throw e;
    }

    static long bit(boolean is) {
        return is ? 1 : 0;
    }

    static void tape(StillLoops x, String text) {
        byte[] bytes = text.getBytes(StandardCharsets.ISO_8859_1);
        int[] words = new int[(bytes.length + 19) / 20 * 5];
        for (int k = 0; k < bytes.length; k++) {
            words[k / 4] |= (bytes[k] & 255) << 24 - 8 * (k % 4);
        }
        for (int k = 0; k < words.length; k += 5) {
            x.feed(words[k], words[k + 1], words[k + 2], words[k + 3], words[k + 4]);
        }
        x.end(bytes.length);
    }

    static void tell(StillLoops x, String... texts) {
        for (String text : texts) {
            tape(x, text);
            x.bench();
        }
    }

    static StillLoops told(String... texts) {
        StillLoops x = new StillLoops();
        tell(x, texts);
        return x;
    }

    static void faultAt(StillLoops x, String text, int where) {
        due("'" + text + "'", where == NONE ? x.count(1) + 1 : ARGUMENT, () -> {
            tape(x, text);
            return x.bench();
        });
        due("fault of '" + text + "'", where, x::fault);
    }
}
