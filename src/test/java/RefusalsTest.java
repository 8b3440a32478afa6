import java.util.function.Supplier;
import java.util.function.ToLongFunction;

/**
 * Each call that is refused: what it throws, of several exceptions the one told first, and that nothing has changed
 * by it; and beside each the call just inside the bound, which is not refused.
 */
public final class RefusalsTest extends Checks {
    private static final int LEAST = Integer.MIN_VALUE;
    private static final int MOST = Integer.MAX_VALUE;
    private static final int[] NO_LOOPS = {-1, 4, LEAST, MOST};

    /** A call on a LOOP. */
    private interface OfLoop {
        long answer(StillLoops x, int loop);
    }

    public static void main(String[] args) {
        busyIsBusy();
        noSuchLoop();
        noSuchSet();
        noSuchEvent();
        noSuchWhat();
        flowBounds();
        tickBounds();
        modes();
        setPoints();
        outs();
        gainBounds();
        loadBounds();
        relays();
        tunes();
        bumps();
        steps();
        twins();
        aheads();
        answersThatAreNone();
        finish("checks of refusals");
    }

    /**
     * Four LOOPS: 0 in AUTO, 1 ON it in CASCADE, 2 in MANUAL with KU and a CURVE, 3 in a RELAY test behind a trip;
     * EVENTS that wait, rows in the LOG, an IMAGE, and a text on the TAPE. Some 40 calls.
     */
    private static StillLoops busy() {
        StillLoops x = told("loop lag gain 256 tau 1 low -50 high 50;loop slow gain 200 tau 1 low -40 high 60 late 2 on 0;"
                + "loop level gain 256 tau 0 low -10 high 10;loop lag gain 300 tau 2 low -100 high 100 late 8",
                "gains 0 from 5 kp 300 ki 20 kd 30;gains 0 from 9 kp 200 ki 10 kd 5;law 0 c 40 hyst 1;law 1 b 200 stick 1");
        x.relay(2, 5, 2);
        x.ticks(16);
        x.load(2, 1);
        tell(x, "curve 2 0 3 9;at 300 set 0 5;at 17 mode 0 manual;at 400 lost 2");
        x.lose(3, true);
        x.mode(3, 1);
        x.ticks(1);
        x.lose(3, false);
        x.image();
        x.relay(3, 9, 1);
        x.set(0, 7);
        x.mode(0, 1);
        x.mode(1, 2);
        x.ticks(5);
        x.mode(0, 1);
        x.set(0, 12);
        x.ticks(6);
        tape(x, "law 0 b 77");
        return x;
    }

    private static void busyIsBusy() {
        promise = 1;
        StillLoops x = busy();
        long[] modes = {1, 2, 0, 3};
        for (int k = 0; k < 4; k++) {
            int loop = k;
            due("mode of " + k, modes[k], () -> x.loop(loop, 8));
        }
        due("three SETS", 3, () -> x.loop(0, 14));
        due("KU", 325, () -> x.loop(2, 18));
        due("a trip", 0, () -> x.trip(3, 0));
        due("EVENTS", 2, () -> x.count(3));
    }

    private static void refused(String what, long want, Supplier<StillLoops> made, ToLongFunction<StillLoops> call) {
        StillLoops x = made.get();
        StillLoops y = made.get();
        due(what, want, () -> call.applyAsLong(x));
        same("behind " + what, seen(y), seen(x));
        same("later, behind " + what, later(y), later(x));
    }

    /** What only shows later: the TAPE, the tests that go on, THE IMAGE. */
    private static String later(StillLoops x) {
        int tape = x.feed(0x20202020, 0x20202020, 0x20202020, 0x20202020, 0x20202020);
        StringBuilder all = new StringBuilder("tape " + tape + " text " + x.bench() + " trips " + x.ticks(30));
        for (int time = 0; time < 2; time++) {
            for (int k = 0; k < x.count(0); k++) {
                all.append(' ').append(x.inner(k, 0)).append(' ').append(x.inner(k, 2)).append(' ').append(x.weight(k, 0));
            }
            all.append(" back ").append(x.back()).append(" log ").append(x.count(4));
        }
        return all.toString();
    }

    private static void refused(String what, long want, ToLongFunction<StillLoops> call) {
        refused(what, want, RefusalsTest::busy, call);
    }

    private static void fine(String what, long want, ToLongFunction<StillLoops> call) {
        StillLoops x = busy();
        due(what, want, () -> call.applyAsLong(x));
    }

    private static void ofNoLoop(int number, String name, OfLoop call) {
        promise = number;
        for (int loop : NO_LOOPS) {
            refused(name + " of loop " + loop, INDEX, x -> call.answer(x, loop));
        }
        refused(name + " without loops", INDEX, StillLoops::new, x -> call.answer(x, 0));
        refused(name + " of a second loop", INDEX, () -> told(LAG), x -> call.answer(x, 1));
    }

    /** Every call that names a LOOP, with right numbers and with wrong ones behind it. */
    private static void noSuchLoop() {
        ofNoLoop(6, "loop", (x, l) -> x.loop(l, 0));
        ofNoLoop(6, "loop, what wrong", (x, l) -> x.loop(l, 21));
        ofNoLoop(7, "inner", (x, l) -> x.inner(l, 0));
        ofNoLoop(7, "inner, what wrong", (x, l) -> x.inner(l, -1));
        ofNoLoop(8, "gain", (x, l) -> x.gain(l, 0, 0));
        ofNoLoop(8, "gain, all wrong", (x, l) -> x.gain(l, 3, 4));
        ofNoLoop(9, "weight", (x, l) -> x.weight(l, 0));
        ofNoLoop(9, "weight, what wrong", (x, l) -> x.weight(l, 6));
        ofNoLoop(10, "trip", (x, l) -> x.trip(l, 0));
        ofNoLoop(10, "trip, k below", (x, l) -> x.trip(l, -1));
        ofNoLoop(11, "whose", (x, l) -> x.whose(l, 0));
        ofNoLoop(11, "whose, k above", (x, l) -> x.whose(l, 9));
        ofNoLoop(12, "flow", (x, l) -> x.flow(l, 0));
        ofNoLoop(12, "flow, number wrong", (x, l) -> x.flow(l, MOST));
        ofNoLoop(14, "mode", (x, l) -> x.mode(l, 0));
        ofNoLoop(14, "mode, mode wrong", (x, l) -> x.mode(l, 3));
        ofNoLoop(15, "set", (x, l) -> x.set(l, 0));
        ofNoLoop(15, "set, SP wrong", (x, l) -> x.set(l, 10000));
        ofNoLoop(16, "out", (x, l) -> x.out(l, 0));
        ofNoLoop(16, "out, OUT wrong", (x, l) -> x.out(l, LEAST));
        ofNoLoop(17, "gains", (x, l) -> x.gains(l, 0, 0, 0));
        ofNoLoop(17, "gains, all wrong", (x, l) -> x.gains(l, -1, -1, -1));
        ofNoLoop(18, "load", (x, l) -> x.load(l, 0));
        ofNoLoop(18, "load, LOAD wrong", (x, l) -> x.load(l, 1000));
        ofNoLoop(19, "lose", (x, l) -> bit(x.lose(l, true)));
        ofNoLoop(19, "lose not", (x, l) -> bit(x.lose(l, false)));
        ofNoLoop(20, "relay", (x, l) -> x.relay(l, 1, 0));
        ofNoLoop(20, "relay, all wrong", (x, l) -> x.relay(l, 0, -1));
        ofNoLoop(21, "tune", (x, l) -> x.tune(l, 0));
        ofNoLoop(21, "tune, rule wrong", (x, l) -> x.tune(l, 3));
        ofNoLoop(22, "bump", (x, l) -> x.bump(l, 0));
        ofNoLoop(22, "bump, mode wrong", (x, l) -> x.bump(l, 3));
        ofNoLoop(24, "sweep", (x, l) -> x.sweep(l));
        ofNoLoop(25, "starts", (x, l) -> x.starts(l, 0));
        ofNoLoop(25, "starts, what wrong", (x, l) -> x.starts(l, 5));
        ofNoLoop(26, "step", (x, l) -> x.step(l, 1, 0));
        ofNoLoop(26, "step, all wrong", (x, l) -> x.step(l, 0, 4));
        ofNoLoop(28, "ahead", (x, l) -> x.ahead(l, 0, false));
        ofNoLoop(28, "ahead, n wrong", (x, l) -> x.ahead(l, 61, true));
        ofNoLoop(29, "peak", (x, l) -> x.peak(l, 0));
        ofNoLoop(29, "peak, n wrong", (x, l) -> x.peak(l, 61));
        ofNoLoop(30, "hunts", (x, l) -> x.hunts(l, 0));
        ofNoLoop(30, "hunts, n wrong", (x, l) -> x.hunts(l, -1));
    }

    private static void noSuchSet() {
        promise = 8;
        for (int set : new int[] {-1, 3, LEAST, MOST}) {
            refused("SET " + set, INDEX, x -> x.gain(0, set, 0));
            refused("SET ahead of what, " + set, INDEX, x -> x.gain(0, set, 4));
        }
        refused("a second SET where there is one", INDEX, x -> x.gain(1, 1, 0));
        fine("the first SET", -9999, x -> x.gain(0, 0, 0));
        fine("the third SET", 9, x -> x.gain(0, 2, 0));
        fine("its KD", 5, x -> x.gain(0, 2, 3));
    }

    private static void noSuchEvent() {
        promise = 33;
        for (int k : new int[] {-1, 2, LEAST, MOST}) {
            refused("EVENT " + k, INDEX, x -> x.event(k, 0));
            refused("EVENT ahead of what, " + k, INDEX, x -> x.event(k, 4));
        }
        refused("EVENT 0 without any", INDEX, StillLoops::new, x -> x.event(0, 0));
        fine("the first one", 300, x -> x.event(0, 0));
        fine("the last one", 400, x -> x.event(1, 0));
        fine("its what", 2, x -> x.event(1, 1));
        fine("its LOOP", 2, x -> x.event(1, 2));
        fine("its number", 0, x -> x.event(1, 3));
    }

    private static void noSuchWhat() {
        for (int beyond : new int[] {-1, LEAST, MOST}) {
            whats(beyond, beyond, beyond, beyond, beyond);
        }
        whats(21, 6, 4, 5, 9);
        fine("the last what of loop", 3, x -> x.loop(2, 20));
        fine("the last what of inner", 1000000000000L + 256L * 456 * 9999, x -> x.inner(1, 5));
        fine("the last what of weight", 1, x -> x.weight(0, 5));
        fine("the last what of which: none follows", 0, x -> x.which(8));
        fine("the last what of log", 1, x -> x.log(0, 3));
    }

    private static void whats(int ofLoop, int ofInner, int ofGain, int ofStarts, int ofWhich) {
        promise = 6;
        refused("loop, what " + ofLoop, ELEMENT, x -> x.loop(0, ofLoop));
        promise = 7;
        refused("inner, what " + ofInner, ELEMENT, x -> x.inner(0, ofInner));
        promise = 9;
        refused("weight, what " + ofInner, ELEMENT, x -> x.weight(0, ofInner));
        promise = 8;
        refused("gain, what " + ofGain, ELEMENT, x -> x.gain(0, 0, ofGain));
        promise = 33;
        refused("event, what " + ofGain, ELEMENT, x -> x.event(0, ofGain));
        promise = 34;
        refused("log, what " + ofGain, ELEMENT, x -> x.log(0, ofGain));
        refused("log, what before ago, " + ofGain, ELEMENT, x -> x.log(-1, ofGain));
        refused("log that is empty, what " + ofGain, ELEMENT, StillLoops::new, x -> x.log(0, ofGain));
        promise = 26;
        refused("step, what " + ofGain, ELEMENT, x -> x.step(0, 1, ofGain));
        refused("step, what before SIZE, " + ofGain, ELEMENT, x -> x.step(0, 0, ofGain));
        refused("step, what before AUTO, " + ofGain, ELEMENT, x -> x.step(2, 1, ofGain));
        promise = 25;
        refused("starts, what " + ofStarts, ELEMENT, x -> x.starts(0, ofStarts));
        promise = 32;
        refused("which, what " + ofWhich, ELEMENT, x -> x.which(ofWhich));
        refused("which without loops, what " + ofWhich, ELEMENT, StillLoops::new, x -> x.which(ofWhich));
    }

    private static void flowBounds() {
        promise = 12;
        refused("below LOW", ARGUMENT, x -> x.flow(2, -11));
        refused("above HIGH", ARGUMENT, x -> x.flow(2, 11));
        refused("the least", ARGUMENT, x -> x.flow(0, LEAST));
        refused("the greatest", ARGUMENT, x -> x.flow(0, MOST));
        fine("LOW", 0, x -> x.flow(2, -10));
        fine("HIGH", 9, x -> x.flow(2, 10));
        fine("LOW without a CURVE", -50, x -> x.flow(0, -50));
        fine("HIGH without a CURVE", 50, x -> x.flow(0, 50));
    }

    private static void tickBounds() {
        promise = 13;
        for (int n : new int[] {0, -1, 61, LEAST, MOST}) {
            refused(n + " ticks", ARGUMENT, x -> x.ticks(n));
            refused(n + " ticks without loops", ARGUMENT, StillLoops::new, x -> x.ticks(n));
        }
        fine("1", 29, x -> x.ticks(1) + x.count(2));
        fine("60", 88, x -> x.ticks(60) + x.count(2));
    }

    private static void modes() {
        promise = 14;
        for (int mode : new int[] {-1, 3, LEAST, MOST}) {
            refused("MODE " + mode, ARGUMENT, x -> x.mode(0, mode));
            refused("MODE " + mode + " in RELAY", ARGUMENT, x -> x.mode(3, mode));
        }
        refused("CASCADE ON none", STATE, x -> x.mode(0, 2));
        refused("CASCADE ON none, from MANUAL", STATE, x -> x.mode(2, 2));
        refused("CASCADE ON none, from RELAY", STATE, x -> x.mode(3, 2));
        fine("0", 1, x -> x.mode(0, 0));
        fine("2", 2, x -> x.mode(1, 2));
        fine("from RELAY", 3, x -> x.mode(3, 1));
    }

    private static void setPoints() {
        promise = 15;
        for (int sp : new int[] {-10000, 10000, LEAST, MOST}) {
            refused("SP " + sp, ARGUMENT, x -> x.set(0, sp));
            refused("SP before CASCADE, " + sp, ARGUMENT, x -> x.set(1, sp));
        }
        refused("in CASCADE", STATE, x -> x.set(1, 5));
        refused("in CASCADE, as it is", STATE, x -> x.set(1, x.loop(1, 9)));
        fine("9999", 12, x -> x.set(0, 9999));
        fine("-9999", 12, x -> x.set(0, -9999));
        fine("9999 it is", 9999, x -> x.set(0, 9999) * 0 + x.loop(0, 9));
        fine("-9999 it is", -9999, x -> x.set(0, -9999) * 0 + x.loop(0, 9));
        fine("in MANUAL", 0, x -> x.set(2, 5));
        fine("in RELAY", 0, x -> x.set(3, 5));
    }

    private static void outs() {
        promise = 16;
        for (int v : new int[] {-11, 11, LEAST, MOST}) {
            refused("OUT " + v, ARGUMENT, x -> x.out(2, v));
        }
        refused("OUT before MODE", ARGUMENT, x -> x.out(0, 51));
        refused("OUT before MODE, RELAY", ARGUMENT, x -> x.out(3, -101));
        refused("in AUTO", STATE, x -> x.out(0, 50));
        refused("in CASCADE", STATE, x -> x.out(1, -40));
        refused("in RELAY", STATE, x -> x.out(3, 0));
        fine("LOW", -10, x -> x.out(2, -10) * 0 + x.loop(2, 11));
        fine("HIGH", 10, x -> x.out(2, 10) * 0 + x.loop(2, 11));
    }

    private static void gainBounds() {
        promise = 17;
        for (int number : new int[] {-1, 10000, LEAST, MOST}) {
            refused("KP " + number, ARGUMENT, x -> x.gains(0, number, 1, 1));
            refused("KI " + number, ARGUMENT, x -> x.gains(0, 1, number, 1));
            refused("KD " + number, ARGUMENT, x -> x.gains(0, 1, 1, number));
        }
        for (int number : new int[] {0, 9999}) {
            for (int what = 1; what <= 3; what++) {
                int w = what;
                fine(number + " is laid", number, x -> {
                    int set = x.gains(0, w == 1 ? number : 5, w == 2 ? number : 5, w == 3 ? number : 5);
                    return x.gain(0, set, w);
                });
            }
        }
    }

    private static void loadBounds() {
        promise = 18;
        for (int number : new int[] {-1000, 1000, LEAST, MOST}) {
            refused("LOAD " + number, ARGUMENT, x -> x.load(2, number));
        }
        fine("999", 1, x -> x.load(2, 999));
        fine("999 it is", 999, x -> x.load(2, 999) * 0 + x.loop(2, 4));
        fine("-999 it is", -999, x -> x.load(2, -999) * 0 + x.loop(2, 4));
    }

    private static StillLoops wide() {
        StillLoops x = told("loop level gain 1 tau 0 low -999 high 999;loop level gain 1 tau 0 low -5 high 9");
        x.out(1, 2);
        x.set(1, 3);
        tape(x, "law 0 b 5");
        return x;
    }

    private static void relays() {
        promise = 20;
        for (int d : new int[] {0, -1, 1000, LEAST, MOST}) {
            refused("D " + d, ARGUMENT, RefusalsTest::wide, x -> x.relay(0, d, 0));
            refused("D before MODE, " + d, ARGUMENT, x -> x.relay(3, d, 0));
        }
        for (int h : new int[] {-1, 100, LEAST, MOST}) {
            refused("H " + h, ARGUMENT, RefusalsTest::wide, x -> x.relay(0, 1, h));
            refused("H before MODE, " + h, ARGUMENT, x -> x.relay(0, 1, h));
            refused("H before LOW, " + h, ARGUMENT, RefusalsTest::wide, x -> x.relay(1, 999, h));
        }
        refused("in AUTO", STATE, x -> x.relay(0, 1, 0));
        refused("in CASCADE", STATE, x -> x.relay(1, 1, 0));
        refused("in RELAY", STATE, x -> x.relay(3, 1, 0));
        refused("OUT less D below LOW, OUT and D above HIGH", STATE, RefusalsTest::wide, x -> x.relay(1, 8, 0));
        refused("far beyond both", STATE, RefusalsTest::wide, x -> x.relay(1, 999, 99));
        StillLoops x = wide();
        due("999 and 99", 1, () -> x.relay(0, 999, 99));
        due("7: OUT less D is LOW, OUT and D HIGH", 1, () -> x.relay(1, 7, 0));
        x.mode(1, 0);
        x.out(1, 3);
        due("OUT and D above HIGH alone", STATE, () -> x.relay(1, 7, 0));
        due("OUT and D HIGH", 1, () -> x.relay(1, 6, 0));
        x.mode(1, 0);
        x.out(1, 1);
        due("OUT less D below LOW alone", STATE, () -> x.relay(1, 7, 0));
        due("OUT less D LOW", 1, () -> x.relay(1, 6, 0));
    }

    private static void tunes() {
        promise = 21;
        for (int rule : new int[] {-1, 3, LEAST, MOST}) {
            refused("rule " + rule, ARGUMENT, x -> x.tune(2, rule));
            refused("rule before KU, " + rule, ARGUMENT, x -> x.tune(0, rule));
        }
        for (int rule = 0; rule <= 2; rule++) {
            int r = rule;
            refused("no KU, rule " + rule, STATE, x -> x.tune(0, r));
            refused("no KU in a test, rule " + rule, STATE, x -> x.tune(3, r));
        }
        fine("rule 0", 195, x -> x.tune(2, 0));
        fine("rule 2", 108, x -> x.tune(2, 2));
    }

    private static void bumps() {
        promise = 22;
        for (int mode : new int[] {-1, 3, LEAST, MOST}) {
            refused("MODE " + mode, ARGUMENT, x -> x.bump(0, mode));
            refused("MODE " + mode + " of one that is ON one", ARGUMENT, x -> x.bump(1, mode));
        }
        refused("CASCADE ON none", STATE, x -> x.bump(0, 2));
        refused("CASCADE ON none, RELAY", STATE, x -> x.bump(3, 2));
        for (int mode = 0; mode <= 2; mode++) {
            int m = mode;
            unchanged("bump of 1 to " + mode, x -> x.bump(1, m));
        }
        unchanged("bump of a test to MANUAL", x -> x.bump(3, 0));
    }

    /** A question changes nothing either. */
    private static void unchanged(String what, ToLongFunction<StillLoops> call) {
        StillLoops x = busy();
        StillLoops y = busy();
        call.applyAsLong(x);
        same("behind " + what, seen(y), seen(x));
        same("later, behind " + what, later(y), later(x));
    }

    private static void steps() {
        promise = 26;
        for (int size : new int[] {0, -1000, 1000, LEAST, MOST}) {
            refused("SIZE " + size, ARGUMENT, x -> x.step(0, size, 0));
            refused("SIZE before AUTO, " + size, ARGUMENT, x -> x.step(1, size, 0));
        }
        refused("in CASCADE", STATE, x -> x.step(1, 1, 0));
        refused("in MANUAL", STATE, x -> x.step(2, 1, 1));
        refused("in RELAY", STATE, x -> x.step(3, 1, 2));
        for (int size : new int[] {-999, -1, 1, 999}) {
            unchanged("step by " + size, x -> x.step(0, size, 3));
        }
    }

    private static void twins() {
        promise = 27;
        for (int n : new int[] {-1, 61, LEAST, MOST}) {
            refused("N before RELAY, " + n, ARGUMENT, x -> x.twin(n));
            refused("N " + n, ARGUMENT, RefusalsTest::wide, x -> x.twin(n));
            refused("N without loops, " + n, ARGUMENT, StillLoops::new, x -> x.twin(n));
        }
        refused("some LOOP in RELAY", STATE, x -> x.twin(5));
        refused("some LOOP in RELAY, N 0", STATE, x -> x.twin(0));
        StillLoops x = new StillLoops();
        due("0 without loops", 0, () -> x.twin(0));
        due("60 without loops", 0, () -> x.twin(60));
        StillLoops y = busy();
        y.mode(3, 0);
        due("no LOOP in RELAY any more", 0, () -> y.twin(0));
        due("60", 1, () -> bit(y.twin(60) >= 0));
    }

    private static void aheads() {
        for (int n : new int[] {-1, 61, LEAST, MOST}) {
            promise = 28;
            refused("ahead " + n, ARGUMENT, x -> x.ahead(0, n, false));
            refused("ahead " + n + ", OUT", ARGUMENT, x -> x.ahead(3, n, true));
            promise = 29;
            refused("peak " + n, ARGUMENT, x -> x.peak(0, n));
            promise = 30;
            refused("hunts " + n, ARGUMENT, x -> x.hunts(0, n));
            promise = 31;
            refused("worst " + n, ARGUMENT, x -> x.worst(n));
            refused("worst without loops " + n, ARGUMENT, StillLoops::new, x -> x.worst(n));
        }
        for (int n : new int[] {0, 1, 60}) {
            promise = 28;
            unchanged("ahead " + n, x -> x.ahead(0, n, false) + x.ahead(3, n, true));
            promise = 29;
            unchanged("peak " + n, x -> x.peak(0, n));
            promise = 30;
            unchanged("hunts " + n, x -> x.hunts(0, n));
            promise = 31;
            unchanged("worst " + n, x -> x.worst(n));
        }
        promise = 23;
        unchanged("round", x -> x.round(true) + x.round(false));
        promise = 24;
        unchanged("sweep", x -> x.sweep(0));
        promise = 25;
        unchanged("starts", x -> x.starts(0, 4));
    }

    /** What is none without an exception. */
    private static void answersThatAreNone() {
        for (int k : new int[] {-1, 1, 4, LEAST, MOST}) {
            promise = 10;
            fine("trip " + k, NONE, x -> x.trip(3, k));
            promise = 11;
            fine("whose " + k, NONE, x -> x.whose(3, k));
        }
        promise = 34;
        StillLoops x = busy();
        int rows = x.count(4);
        for (int ago : new int[] {-1, rows, LEAST, MOST}) {
            for (int what = 0; what <= 3; what++) {
                int w = what;
                due("log " + ago + " ago", NONE, () -> x.log(ago, w));
            }
        }
        due("the oldest row: the test ended", 3, () -> x.log(rows - 1, 2));
        promise = 37;
        for (int what : new int[] {-1, 5, LEAST, MOST}) {
            due("count " + what, NONE, () -> x.count(what));
        }
        promise = 36;
        StillLoops y = wide();
        String was = seen(y);
        due("no image", 0, () -> bit(y.back()));
        same("nothing happens", was, seen(y));
    }
}
