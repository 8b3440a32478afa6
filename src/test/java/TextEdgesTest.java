import java.util.function.ToLongFunction;

/** THE BENCH in texts: each bound of each number from both sides, what is too many, and the first wrong byte. */
public final class TextEdgesTest extends Checks {
    private static final String SMALL = "loop lag gain 1 tau 1 low 0 high 5";

    public static void main(String[] args) {
        tapeEdges();
        endEdges();
        loopNumbers();
        lawNumbers();
        gainsNumbers();
        curveNumbers();
        eventNumbers();
        eventTimes();
        timesBeyondAllNumbers();
        loopsTooMany();
        linesTooMany();
        textsTooMany();
        setsTooMany();
        eventsTooMany();
        blanks();
        words();
        signs();
        moreMustCome();
        fullTape();
        nothingStays();
        firstValues();
        faultsOneBehindAnother();
        finish("checks of texts");
    }

    /** LOOP 0, LOOP 1 that is ON it, and some state that a wrong text must leave. */
    private static StillLoops base() {
        StillLoops x = told(LAG + ";" + LAG + " on 0");
        x.out(0, 7);
        x.set(1, 3);
        return x;
    }

    private static void laid(String text, long want, ToLongFunction<StillLoops> got) {
        StillLoops x = base();
        due("'" + text + "'", 2, () -> {
            tape(x, text);
            return x.bench();
        });
        due("no fault of '" + text + "'", NONE, x::fault);
        due("what '" + text + "' laid", want, () -> got.applyAsLong(x));
    }

    private static void refused(String text, int where) {
        StillLoops x = base();
        String was = seen(x);
        due("'" + text + "'", ARGUMENT, () -> {
            tape(x, text);
            return x.bench();
        });
        due("fault of '" + text + "'", where, x::fault);
        same("behind '" + text + "'", was, seen(x).replace("fault " + where, "fault " + NONE));
    }

    /** An N: at its bounds it is laid, beyond them, with a sign, with five digits or without it is wrong. */
    private static void number(String ahead, String behind, int least, int most, ToLongFunction<StillLoops> got) {
        int at = ahead.length();
        laid(ahead + least + behind, least, got);
        laid(ahead + most + behind, most, got);
        laid(ahead + "0".repeat(4 - ("" + most).length()) + most + behind, most, got);
        refused(ahead + (most + 1) + behind, at);
        refused(ahead + "-1" + behind, at);
        refused(ahead + "-" + least + behind, at);
        refused(ahead + "0000" + least + behind, at);
        refused(ahead + "x" + behind, at);
        refused(ahead, at);
        if (least > 0) {
            refused(ahead + (least - 1) + behind, at);
        }
    }

    /** An S: likewise, and it is wrong at its sign, if it has one. */
    private static void signed(String ahead, String behind, int least, int most, ToLongFunction<StillLoops> got) {
        int at = ahead.length();
        laid(ahead + least + behind, least, got);
        laid(ahead + most + behind, most, got);
        laid(ahead + "-0" + behind, 0, got);
        laid(ahead + "0000" + behind, 0, got);
        refused(ahead + (most + 1) + behind, at);
        refused(ahead + (least - 1) + behind, at);
        refused(ahead + "-00000" + behind, at);
        refused(ahead + "00000" + behind, at);
        refused(ahead + "- 1" + behind, at + 1);
        refused(ahead + "--1" + behind, at + 1);
        refused(ahead + "-x" + behind, at + 1);
        refused(ahead + "+1" + behind, at);
        refused(ahead + "-", at + 1);
        refused(ahead, at);
    }

    private static void tapeEdges() {
        promise = 2;
        StillLoops x = new StillLoops();
        x.feed(0, 0, 0, 0, 0);
        x.end(1);
        for (int n = 1; n <= 19; n++) {
            due("feed from 1 on", 1 + 20L * n, () -> x.feed(0, 0, 0, 0, 0));
        }
        due("it would have 401", NONE, () -> x.feed(0, 0, 0, 0, 0));
        due("none came", 0, () -> bit(x.end(382)));
        due("it has 381", 1, () -> bit(x.end(381)));
        due("end takes one", 1, () -> bit(x.end(380)));
        due("it has 400", 400, () -> x.feed(0, 0, 0, 0, 0));
        due("full", NONE, () -> x.feed(0, 0, 0, 0, 0));
        due("all are there", 1, () -> bit(x.end(400)));
        StillLoops y = new StillLoops();
        for (int n = 1; n <= 19; n++) {
            y.feed(0x20202020, 0x20202020, 0x20202020, 0x20202020, 0x20202020);
        }
        y.feed(0x20202020, 0x20202020, 0x20202020, 0x20202020, 0x20202041);
        due("400 bytes are read", ARGUMENT, y::bench);
        due("the last of them is wrong", 399, y::fault);
        for (int at = 0; at < 20; at++) {
            int[] n = {0x20202020, 0x20202020, 0x20202020, 0x20202020, 0x20202020};
            n[at / 4] = n[at / 4] & ~(255 << 24 - at % 4 * 8) | 255 << 24 - at % 4 * 8;
            StillLoops z = new StillLoops();
            z.feed(n[0], n[1], n[2], n[3], n[4]);
            due("a byte 255", ARGUMENT, z::bench);
            due("of each number the highest first", at, z::fault);
        }
    }

    private static void endEdges() {
        promise = 3;
        StillLoops x = new StillLoops();
        due("none of none", 1, () -> bit(x.end(0)));
        due("one of none", 0, () -> bit(x.end(1)));
        due("the least number", 0, () -> bit(x.end(Integer.MIN_VALUE)));
        due("the greatest number", 0, () -> bit(x.end(Integer.MAX_VALUE)));
        x.feed(0x41424344, 0, 0, 0, 0);
        due("-1", 0, () -> bit(x.end(-1)));
        due("one more than it has", 0, () -> bit(x.end(21)));
        due("as many as it has", 1, () -> bit(x.end(20)));
        due("nothing happened", 40, () -> x.feed(0, 0, 0, 0, 0));
        due("its first alone", 1, () -> bit(x.end(1)));
        due("the others are gone", 0, () -> bit(x.end(2)));
        due("none", 1, () -> bit(x.end(0)));
        due("an empty text", 1, x::bench);
        due("used up, none is there", 1, () -> bit(x.end(0)));
        due("used up", 0, () -> bit(x.end(1)));
    }

    private static void loopNumbers() {
        promise = 4;
        number("loop lag gain ", " tau 1 low 0 high 5", 0, 999, x -> x.loop(2, 1));
        number("loop lag gain 1 tau ", " low 0 high 5", 0, 8, x -> x.loop(2, 2));
        number(SMALL + " late ", "", 0, 8, x -> x.loop(2, 3));
        number(SMALL + " late ", " on 1", 0, 8, x -> x.loop(2, 3));
        number(SMALL + " on ", "", 0, 1, x -> x.loop(2, 7));
        lowNumbers();
        signed("loop lag gain 1 tau 1 low -9999 high ", "", -9998, 9999, x -> x.loop(2, 6));
        laid("loop lag gain 1 tau 1 low 9998 high 9999", 9998, x -> x.loop(2, 11));
        laid("loop lag gain 1 tau 1 low -9999 high -9998", -9998, x -> x.loop(2, 11));
        laid("loop lag gain 1 tau 1 low 0 high 1", 0, x -> x.loop(2, 11));
        laid("loop lag gain 1 tau 1 low -1 high 0", 0, x -> x.loop(2, 12));
        laid("loop lag gain 1 tau 1 low 1 high 2", 1, x -> x.loop(2, 12));
        laid("loop lag gain 1 tau 1 low -2 high -1", -1, x -> x.loop(2, 12));
        refused("loop lag gain 1 tau 1 low 0 high 0", 33);
        refused("loop lag gain 1 tau 1 low -3 high -3", 34);
        refused("loop lag gain 1 tau 1 low -3 high -4", 34);
        laid("loop lag gain 1 tau 1 low -3 high -2", -2, x -> x.loop(2, 6));
        laid(SMALL, 0, x -> x.loop(2, 0));
        laid("loop level gain 1 tau 1 low 0 high 5", 1, x -> x.loop(2, 0));
        laid("loop slow gain 1 tau 1 low 0 high 5", 2, x -> x.loop(2, 0));
        laid(SMALL + ";" + SMALL + " on 2", 2, x -> x.loop(3, 7));
        refused(SMALL + ";" + SMALL + " on 3", 73);
        refused(SMALL + " on 1 late 1", 40);
        refused(SMALL + " late 1 late 1", 42);
        refused(SMALL + " on 1 on 1", 40);
    }

    /** 9999 may be LOW by itself, but no HIGH is above it. */
    private static void lowNumbers() {
        String ahead = "loop lag gain 1 tau 1 low ";
        laid(ahead + "-9999 high 9999", -9999, x -> x.loop(2, 5));
        laid(ahead + "9998 high 9999", 9998, x -> x.loop(2, 5));
        refused(ahead + "-10000 high 9999", 26);
        refused(ahead + "10000 high 9999", 26);
        refused(ahead + "-00001 high 9999", 26);
        refused(ahead + "00001 high 9999", 26);
        refused(ahead + "- 1 high 9999", 27);
        refused(ahead + "high 9999", 26);
        refused(ahead + "9999 high 9999", 36);
        refused(ahead + "9999 high 10000", 36);
        refused(ahead + "9999 high -9999", 36);
    }

    private static void lawNumbers() {
        promise = 4;
        number("law ", " b 7", 0, 1, x -> x.weight(0, 0) == 7 ? 0 : x.weight(1, 0) == 7 ? 1 : NONE);
        number("law 0 b ", "", 0, 256, x -> x.weight(0, 0));
        number("law 0 c ", "", 0, 256, x -> x.weight(0, 1));
        number("law 0 filter ", "", 0, 8, x -> x.weight(0, 2));
        number("law 0 back ", "", 0, 256, x -> x.weight(0, 3));
        number("law 0 stick ", "", 0, 99, x -> x.weight(0, 4));
        number("law 0 hyst ", "", 0, 99, x -> x.weight(0, 5));
        number("law 0 b ", " c 1 filter 1 back 1 stick 1 hyst 1", 0, 256, x -> x.weight(0, 0));
        number("law 0 b 1 c 1 filter 1 back 1 stick 1 hyst ", "", 0, 99, x -> x.weight(0, 5));
        laid("law 1 b 9", 9, x -> x.weight(1, 0));
        laid("law 1 b 9", 256, x -> x.weight(0, 0));
        String[] order = {"b", "c", "filter", "back", "stick", "hyst"};
        for (int one = 0; one < order.length; one++) {
            for (int other = 0; other < order.length; other++) {
                String ahead = "law 0 " + order[one] + " 1 ";
                if (one < other) {
                    laid(ahead + order[other] + " 2", 0, x -> 0);
                } else {
                    refused(ahead + order[other] + " 2", ahead.length());
                }
            }
        }
    }

    private static void gainsNumbers() {
        promise = 4;
        number("gains 0 kp ", " ki 1 kd 1", 0, 9999, x -> x.gain(0, 0, 1));
        number("gains 0 kp 1 ki ", " kd 1", 0, 9999, x -> x.gain(0, 0, 2));
        number("gains 0 kp 1 ki 1 kd ", "", 0, 9999, x -> x.gain(0, 0, 3));
        number("gains 1 from 5 kp ", " ki 1 kd 1", 0, 9999, x -> x.gain(1, 1, 1));
        signed("gains 0 from ", " kp 1 ki 1 kd 1", -9998, 9999, x -> x.gain(0, 1, 0));
        laid("gains 0 kp 7 ki 1 kd 1", 256, x -> x.gain(1, 0, 1));
        laid("gains 1 kp 7 ki 1 kd 1", 7, x -> x.gain(1, 0, 1));
        laid("gains 0 kp 7 ki 1 kd 1", 1, x -> x.loop(0, 14));
        laid("gains 0 from 0 kp 7 ki 1 kd 1", 2, x -> x.loop(0, 14));
        laid("gains 0 from 0 kp 7 ki 1 kd 1", 256, x -> x.gain(0, 0, 1));
        refused("gains 2 kp 1 ki 1 kd 1", 6);
        refused("gains -0 kp 1 ki 1 kd 1", 6);
        String two = "gains 0 from 5 kp 1 ki 1 kd 1;gains 0 from ";
        laid(two + "6 kp 1 ki 1 kd 1", 6, x -> x.gain(0, 2, 0));
        refused(two + "5 kp 1 ki 1 kd 1", two.length());
        refused(two + "4 kp 1 ki 1 kd 1", two.length());
        String below = "gains 0 from -5 kp 1 ki 1 kd 1;gains 0 from ";
        laid(below + "-4 kp 1 ki 1 kd 1", -4, x -> x.gain(0, 2, 0));
        refused(below + "-5 kp 1 ki 1 kd 1", below.length());
        refused(below + "-6 kp 1 ki 1 kd 1", below.length());
        String top = "gains 0 from 9999 kp 1 ki 1 kd 1;gains 0 from ";
        refused(top + "9999 kp 1 ki 1 kd 1", top.length());
    }

    private static void curveNumbers() {
        promise = 4;
        number("curve 0 ", " 3", 0, 999, x -> x.flow(0, -100));
        number("curve 0 3 ", "", 0, 999, x -> x.flow(0, 100));
        number("curve 0 3 ", " 4", 0, 999, x -> x.flow(0, 0));
        laid("curve 0 1 2 3 4 5 6 7 0", 0, x -> x.flow(0, 100));
        laid("curve 0 1 2 3 4 5 6 7 999", 999, x -> x.flow(0, 100));
        refused("curve 0 1 2 3 4 5 6 7 1000", 22);
        laid("curve 1 3 4", 4, x -> x.flow(1, 100));
        laid("curve 1 3 4", 100, x -> x.flow(0, 100));
        refused("curve 2 3 4", 6);
        refused("curve 0", 7);
        refused("curve 0 3", 9);
        laid("curve 0 3 4", 2, x -> x.loop(0, 20));
        laid("curve 0 1 2 3 4 5 6 7", 7, x -> x.loop(0, 20));
        laid("curve 0 1 2 3 4 5 6 7 8", 8, x -> x.loop(0, 20));
        refused("curve 0 1 2 3 4 5 6 7 8 9", 24);
        refused("curve 0 1 2 3 4 5 6 7 8 99999", 24);
        refused("curve 0 1 2 3 -4", 14);
        refused("curve 0 1 2 3 12345", 14);
        laid("curve 0 1 2 3 4 5 6 7 8;curve 0 9 8", 2, x -> x.loop(0, 20));
        laid("curve 0 1 2 3 4 5 6 7 8;curve 0 9 8", 8, x -> x.flow(0, 100));
        laid("law 0", 0, x -> x.loop(0, 20));
    }

    private static void eventNumbers() {
        promise = 4;
        number("at ", " lost 0", 0, 9999, x -> x.event(0, 0));
        number("at 5 set ", " 7", 0, 1, x -> x.event(0, 2));
        number("at 5 load ", " 7", 0, 1, x -> x.event(0, 2));
        number("at 5 lost ", "", 0, 1, x -> x.event(0, 2));
        number("at 5 found ", "", 0, 1, x -> x.event(0, 2));
        number("at 5 mode ", " auto", 0, 1, x -> x.event(0, 2));
        signed("at 5 set 0 ", "", -9999, 9999, x -> x.event(0, 3));
        signed("at 5 load 0 ", "", -999, 999, x -> x.event(0, 3));
        laid("at 5 set 0 7", 0, x -> x.event(0, 1));
        laid("at 5 load 0 7", 1, x -> x.event(0, 1));
        laid("at 5 lost 0", 2, x -> x.event(0, 1));
        laid("at 5 found 0", 3, x -> x.event(0, 1));
        laid("at 5 mode 0 auto", 4, x -> x.event(0, 1));
        laid("at 5 lost 0", 0, x -> x.event(0, 3));
        laid("at 5 found 0", 0, x -> x.event(0, 3));
        laid("at 5 mode 1 manual", 0, x -> x.event(0, 3));
        laid("at 5 mode 1 auto", 1, x -> x.event(0, 3));
        laid("at 5 mode 1 cascade", 2, x -> x.event(0, 3));
        refused("at 5 mode 0 cascade", 12);
        refused("at 5 mode 1 relay", 12);
        refused("at 5 mode 1 0", 12);
        refused("at 5 mode 1", 11);
        refused("at 5 mode cascade", 10);
        refused("at 5 trip 0", 5);
        refused("at lost 0", 3);
        refused("at -5 lost 0", 3);
    }

    private static void eventTimes() {
        promise = 4;
        StillLoops x = base();
        due("at TICK 0", 2, () -> {
            tape(x, "at 0 lost 0");
            return x.bench();
        });
        ticks(x, 17);
        faultAt(x, "law 0; at 16 set 0 5", 10);
        faultAt(x, "at 0 set 0 5", 3);
        faultAt(x, "at 17 set 0 5", NONE);
        faultAt(x, "at 18 set 0 6", NONE);
        due("both wait", 2, () -> x.count(3));
        x.ticks(1);
        due("not below TICK, at once", 5, () -> x.loop(0, 9));
        due("one waits", 1, () -> x.count(3));
        faultAt(x, "at 17 set 0 5", 3);
        x.ticks(1);
        due("the other one a TICK later", 6, () -> x.loop(0, 9));
    }

    /** TICK goes on beyond 9999, where no time can be told any more. */
    private static void timesBeyondAllNumbers() {
        promise = 4;
        StillLoops x = base();
        ticks(x, 9999);
        faultAt(x, "at 9998 lost 0", 3);
        faultAt(x, "at 9999 load 0 8", NONE);
        x.ticks(1);
        due("TICK", 10000, () -> x.count(2));
        due("it happened", 8, () -> x.loop(0, 4));
        faultAt(x, "at 9999 load 0 9", 3);
        faultAt(x, "at 10000 load 0 9", 3);
        faultAt(x, "at 0 load 0 9", 3);
    }

    private static void loopsTooMany() {
        promise = 4;
        StillLoops x = new StillLoops();
        faultAt(x, "law 0", 4);
        faultAt(x, "gains 0 kp 1 ki 1 kd 1", 6);
        faultAt(x, "curve 0 1 2", 6);
        faultAt(x, "at 0 lost 0", 10);
        faultAt(x, SMALL + " on 0", 38);
        due("none", 0, () -> x.count(0));
        faultAt(x, SMALL + "; law 0", NONE);
        faultAt(x, "law 1", 4);
        faultAt(x, SMALL + ";" + SMALL + ";" + SMALL + "; " + SMALL, 106);
        due("nothing of it stays", 1, () -> x.count(0));
        faultAt(x, SMALL + ";" + SMALL + ";" + SMALL, NONE);
        due("four", 4, () -> x.count(0));
        faultAt(x, SMALL, 0);
        faultAt(x, " loop", 1);
        faultAt(x, " loop x", 1);
        faultAt(x, "law 3;loop lag gain 1", 6);
        faultAt(x, "law 4", 4);
        faultAt(x, "law 3 b 5", NONE);
        due("of the fourth", 5, () -> x.weight(3, 0));
        due("still four", 4, () -> x.count(0));
    }

    private static String lines(int n) {
        return "law 0" + "; law 0".repeat(n - 1);
    }

    private static void linesTooMany() {
        promise = 4;
        laid(lines(1), 256, x -> x.weight(0, 0));
        laid(lines(13) + ";law 0 b 5", 5, x -> x.weight(0, 0));
        refused(lines(14) + ";law 0 b 5", 97);
        refused(lines(14) + "; law 0 b 5", 98);
        refused(lines(14) + "; nought", 98);
        refused(lines(14) + ";", 97);
        refused(lines(14) + ";;", 97);
        refused(lines(15), 98);
        refused(lines(20), 98);
        refused(lines(14) + " law 0", 97);
        StillLoops x = base();
        faultAt(x, lines(14), NONE);
        faultAt(x, lines(14), NONE);
        due("14 in each text", 3, () -> x.count(1));
    }

    private static void textsTooMany() {
        promise = 4;
        StillLoops x = new StillLoops();
        tape(x, LAG);
        due("the first", 1, x::bench);
        for (int n = 2; n <= 11; n++) {
            due("text " + n, n, x::bench);
        }
        tape(x, "law 9");
        due("a wrong one does not count", ARGUMENT, x::bench);
        due("11 still", 11, () -> x.count(1));
        due("the 12th", 12, x::bench);
        String was = seen(x);
        tape(x, "law 0 b 5;at 3 lost 0");
        due("a 13th", UNSUPPORTED, x::bench);
        same("nothing changed", was, seen(x));
        due("the TAPE is used up", 0, () -> bit(x.end(1)));
        due("an empty one too", UNSUPPORTED, x::bench);
        tape(x, "law 0 b 257");
        due("wrong is told first", ARGUMENT, x::bench);
        due("at its number", 8, x::fault);
        due("the TAPE is used up", 0, () -> bit(x.end(1)));
        due("12", 12, () -> x.count(1));
    }

    private static void setsTooMany() {
        promise = 4;
        StillLoops x = base();
        tell(x, "gains 0 from 1 kp 1 ki 1 kd 1");
        due("two", 2, () -> x.loop(0, 14));
        faultAt(x, "gains 0 from 2 kp 1 ki 1 kd 1; gains 0 from 3 kp 1 ki 1 kd 1", 31);
        due("nothing of it stays", 2, () -> x.loop(0, 14));
        faultAt(x, "gains 0 from 2 kp 1 ki 1 kd 1", NONE);
        due("three", 3, () -> x.loop(0, 14));
        faultAt(x, " gains 0 from 3 kp 1 ki 1 kd 1", 1);
        due("three still", 3, () -> x.loop(0, 14));
        faultAt(x, "gains 1 from 3 kp 1 ki 1 kd 1", NONE);
        due("of the other one", 2, () -> x.loop(1, 14));
        faultAt(x, "gains 0 kp 8 ki 1 kd 1", NONE);
        due("SET 0 may be laid still", 8, () -> x.gain(0, 0, 1));
        due("the others are as they were", 1, () -> x.gain(0, 2, 1));
    }

    private static void eventsTooMany() {
        promise = 4;
        StillLoops x = base();
        tell(x, "at 9 lost 0" + ";at 9 lost 0".repeat(6));
        due("seven", 7, () -> x.count(3));
        faultAt(x, "at 9 lost 0; at 9 lost 0", 13);
        due("seven still", 7, () -> x.count(3));
        faultAt(x, "at 1 found 0", NONE);
        due("eight", 8, () -> x.count(3));
        faultAt(x, "law 0;at", 6);
        faultAt(x, "law 0;at 10000 lost 0", 6);
        x.ticks(1);
        due("none has happened", 8, () -> x.count(3));
        x.ticks(1);
        due("one is gone", 7, () -> x.count(3));
        faultAt(x, "at 5 found 1", NONE);
        due("room for one", 8, () -> x.count(3));
        due("it is behind all", 1, () -> x.event(7, 2));
        faultAt(x, "at 5 found 1", 0);
        ticks(x, 20);
        due("all are gone", 0, () -> x.count(3));
    }

    private static void blanks() {
        promise = 4;
        StillLoops x = new StillLoops();
        due("an empty text", 1, x::bench);
        due("no fault", NONE, x::fault);
        faultAt(x, " ", NONE);
        faultAt(x, " ".repeat(400), NONE);
        due("no LINE, no LOOP", 0, () -> x.count(0));
        for (int sign : new int[] {0, 9, 10, 13, 31, 33, 95, 127, 128, 160, 255}) {
            refused("law 0" + (char) sign + "b 5", 5);
            refused((char) sign + "law 0", 0);
            refused("law 0 " + (char) sign, 6);
            refused("law" + (char) sign + "0", 3);
        }
        laid("   law   0   b   5   ;   law   0   c   6   ", 11, y -> y.weight(0, 0) + y.weight(0, 1));
        laid("law0b5c6filter7", 18, y -> y.weight(0, 0) + y.weight(0, 1) + y.weight(0, 2));
        laid("at 3set 0-5", -5, y -> y.event(0, 3));
        laid("loop lag gain1tau1low-5high-4late1on1", 1, y -> y.loop(2, 7));
        refused("law 0 0", 6);
        refused("law 0 b 5 5", 10);
    }

    private static void words() {
        promise = 5;
        String[] wrong = {"loo", "loops", "lo", "Loop", "la", "laws", "gain", "gainss", "curves", "curv", "a", "att",
            "0", "-", ";", "LAW", "lAW"};
        for (String word : wrong) {
            refused(word + " 0", 0);
            refused("law 0;  " + word + " 0", 8);
        }
        refused("loop lags gain 1", 5);
        refused("loop la gain 1", 5);
        refused("loop levels gain 1", 5);
        refused("loop slo gain 1", 5);
        refused("loop lag gai 1", 9);
        refused("loop lag gains 1", 9);
        refused("loop lag gain 1 ta 1", 16);
        refused("loop lag gain 1 tau 1 lo 1", 22);
        refused("loop lag gain 1 tau 1 high 1", 22);
        refused("loop lag gain 1 tau 1 low 1 hig 5", 28);
        refused(SMALL + " lat 5", 35);
        refused(SMALL + " o 1", 35);
        refused("law 0 bb 1", 6);
        refused("law 0 filters 1", 6);
        refused("law 0 backs 1", 6);
        refused("law 0 sticks 1", 6);
        refused("law 0 hysts 1", 6);
        refused("law 0 bc 1", 6);
        refused("gains 0 fro 1 kp 1 ki 1 kd 1", 8);
        refused("gains 0 k 1", 8);
        refused("gains 0 kp 1 kd 1", 13);
        refused("gains 0 kp 1 ki 1 kp 1", 18);
        refused("at 1 sets 0 1", 5);
        refused("at 1 loads 0 1", 5);
        refused("at 1 los 0", 5);
        refused("at 1 founds 0", 5);
        refused("at 1 modes 0", 5);
        refused("at 1 mode 0 manua", 12);
        refused("at 1 mode 0 autos", 12);
        refused("at 1 mode 1 cascades", 12);
    }

    /** Texts that fill the TAPE to its last byte. */
    private static void fullTape() {
        promise = 4;
        String[] whole = {SMALL + " on 1", "law 0 b 7", "law 0", "gains 0 kp 1 ki 1 kd 9999", "curve 0 1 2", "at 5 set 0 -9999",
            "at 5 mode 1 cascade", "at 5 lost 0"};
        for (String text : whole) {
            laid(" ".repeat(400 - text.length()) + text, 0, x -> 0);
            laid(text + " ".repeat(400 - text.length()), 0, x -> 0);
            refused(" ".repeat(399 - text.length()) + text + ";", 400);
            refused(" ".repeat(399 - text.length()) + text + "-", 399);
        }
        refused(" ".repeat(389) + "law 0 b 257", 397);
        refused(" ".repeat(387) + "law 0 b 25600", 395);
        refused(" ".repeat(397) + "law", 400);
        refused(" ".repeat(398) + "la", 398);
        refused(" ".repeat(399) + ";", 399);
        refused(" ".repeat(399) + "-", 399);
    }

    private static void signs() {
        promise = 5;
        refused("at 5 set 0 -99999", 11);
        refused("at 5 set 0 -10000", 11);
        refused("at 5 set 0 - 5", 12);
        refused("at 5 load 0 -1000", 12);
        laid("at 5 load 0 -999", -999, x -> x.event(0, 3));
        laid("at 5 set 0   -0009", -9, x -> x.event(0, 3));
        refused("law -0", 4);
        refused("at 5 set 0 5-", 12);
        refused("at 5 set 0 5 -", 13);
    }

    /** The text's length, blanks at its end too, where more must come. */
    private static void moreMustCome() {
        promise = 5;
        String[] begun = {"loop", "loop lag", "loop lag gain", "loop lag gain 1", "loop lag gain 1 tau",
            "loop lag gain 1 tau 1", "loop lag gain 1 tau 1 low", "loop lag gain 1 tau 1 low -", "loop lag gain 1 tau 1 low 0",
            "loop lag gain 1 tau 1 low 0 high", "loop lag gain 1 tau 1 low 0 high -", SMALL + " late", SMALL + " on",
            "law", "law 0 b", "law 0 hyst", "gains", "gains 0", "gains 0 from", "gains 0 from -", "gains 0 from 5",
            "gains 0 kp", "gains 0 kp 1", "gains 0 kp 1 ki", "gains 0 kp 1 ki 1", "gains 0 kp 1 ki 1 kd", "curve",
            "curve 0", "curve 0 1", "at", "at 5", "at 5 set", "at 5 set 0", "at 5 set 0 -", "at 5 load", "at 5 load 0",
            "at 5 lost", "at 5 found", "at 5 mode", "at 5 mode 0", "law 0;", ";law 0;", "law 0;law"};
        for (String text : begun) {
            if (text.startsWith(";")) {
                refused(text, 0);
                continue;
            }
            refused(" ".repeat(400 - text.length()) + text, 400);
            refused(text, text.length());
            refused("law 0 ;" + text, 7 + text.length());
            if (text.endsWith("-")) {
                refused(text + "   ", text.length());
            } else {
                refused(text + "   ", text.length() + 3);
                refused(text + ";law 0", text.length());
            }
        }
    }

    private static void nothingStays() {
        promise = 4;
        String[] good = {SMALL, "law 0 b 1 c 2 filter 3 back 4 stick 5 hyst 6", "gains 0 kp 1 ki 2 kd 3",
            "gains 0 from 5 kp 1 ki 2 kd 3", "curve 0 1 2 3", "at 5 set 0 5", "at 5 mode 1 cascade"};
        StringBuilder all = new StringBuilder();
        for (String line : good) {
            refused(line + ";", line.length() + 1);
            refused(line + " !", line.length() + 1);
            refused(line + "; law 9", line.length() + 6);
            laid(line + "; law 0", 0, x -> 0);
            all.append(line).append(';');
        }
        refused(all + "x", all.length());
        laid(all + "law 0", 3, x -> x.count(0));
        // Of what a text laid before it went wrong a later right text has nothing either.
        StillLoops x = base();
        faultAt(x, "gains 0 from 5 kp 1 ki 2 kd 3;curve 0 1 2;" + SMALL + ";at 5 lost 0;!", 89);
        faultAt(x, "gains 0 from 4 kp 4 ki 4 kd 4;" + LAG, NONE);
        due("one SET more", 2, () -> x.loop(0, 14));
        due("from 4", 4, () -> x.gain(0, 1, 0));
        due("no CURVE", 0, () -> x.loop(0, 20));
        due("one LOOP more", 3, () -> x.count(0));
        due("no EVENT", 0, () -> x.count(3));
        due("its own limits", -100, () -> x.loop(2, 5));
    }

    private static void firstValues() {
        promise = 4;
        StillLoops x = told("loop slow gain 999 tau 8 low -9999 high 9999");
        long[] loop = {2, 999, 8, 0, 0, -9999, 9999, NONE, 0, 0, 0, 0, 0, 0, 1, 0, 0, 0, NONE, NONE, 0};
        for (int what = 0; what < loop.length; what++) {
            int w = what;
            due("loop " + what, loop[what], () -> x.loop(0, w));
        }
        long[] weight = {256, 0, 2, 64, 0, 0};
        long[] inner = {0, 0, 0, 0, 0, 1000000000000L + 256L * 512 * 9999};
        for (int what = 0; what < 6; what++) {
            int w = what;
            due("weight " + what, weight[what], () -> x.weight(0, w));
            due("inner " + what, inner[what], () -> x.inner(0, w));
        }
        long[] gain = {-9999, 256, 64, 0};
        for (int what = 0; what < 4; what++) {
            int w = what;
            due("gain " + what, gain[what], () -> x.gain(0, 0, w));
        }
        due("no TRIPS", NONE, () -> x.trip(0, 0));
        due("none whose", NONE, () -> x.whose(0, 0));
    }

    private static void faultsOneBehindAnother() {
        promise = 5;
        StillLoops x = new StillLoops();
        due("ahead of any", NONE, x::fault);
        faultAt(x, "law 0", 4);
        due("asked again", 4, x::fault);
        x.feed(0, 0, 0, 0, 0);
        due("a TAPE is no text yet", 4, x::fault);
        due("a NUL is none", ARGUMENT, x::bench);
        due("at 0", 0, x::fault);
        faultAt(x, LAG, NONE);
        x.image();
        faultAt(x, "law 0 law", 6);
        x.back();
        due("back leaves it", 6, x::fault);
        x.ticks(1);
        due("a TICK leaves it", 6, x::fault);
        faultAt(x, "", NONE);
    }
}
