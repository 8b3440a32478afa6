/** Each promise of the document by its number: ordinary inputs, the edges that it names, wrong inputs. */
public final class PromisesTest extends Checks {
    public static void main(String[] args) {
        newObject();
        feed();
        end();
        bench();
        benchLimits();
        fault();
        faultOfNumbers();
        faultOfLimits();
        loop();
        inner();
        gain();
        weight();
        tripAndWhose();
        tripByStuck();
        flow();
        ticks();
        ticksPlants();
        ticksSets();
        ticksCascade();
        ticksEvents();
        mode();
        set();
        out();
        gains();
        load();
        lose();
        relay();
        relayInTicks();
        relayMeasures();
        tune();
        bump();
        round();
        sweep();
        starts();
        step();
        twin();
        twinOfMany();
        ahead();
        peak();
        hunts();
        worst();
        which();
        event();
        log();
        imageAndBack();
        toldAnew();
        count();
        finish("checks of promises");
    }

    private static void newObject() {
        promise = 1;
        StillLoops x = new StillLoops();
        for (int what = 0; what <= 4; what++) {
            int w = what;
            due("count " + what, 0, () -> x.count(w));
        }
        due("NONE", -1, () -> StillLoops.NONE);
        due("fault", NONE, x::fault);
        due("no loop", INDEX, () -> x.loop(0, 0));
        due("rest", 0, () -> x.round(false));
        due("rest", 1, () -> x.round(true));
        due("no image", 0, () -> bit(x.back()));
        due("ticks", 0, () -> x.ticks(60));
        due("tick", 60, () -> x.count(2));
    }

    private static void feed() {
        promise = 2;
        StillLoops x = new StillLoops();
        for (int n = 1; n <= 20; n++) {
            due("feed " + n, 20L * n, () -> x.feed(0x20202020, 0x20202020, 0x20202020, 0x20202020, 0x20202020));
        }
        due("more than 400", NONE, () -> x.feed(0, 0, 0, 0, 0));
        due("none came", 0, () -> bit(x.end(401)));
        due("all are blanks", 1, x::bench);
        due("the highest first: 'law'", 20, () -> x.feed(0x6c617720, 0x30202020, -1, 0, 0));
        due("there is no loop 0", ARGUMENT, x::bench);
        due("at the 0", 4, x::fault);
        x.feed(0x20202020, 0x202020ff, 0, 0, 0);
        due("the lowest comes last", ARGUMENT, x::bench);
        due("byte 7", 7, x::fault);
    }

    private static void end() {
        promise = 3;
        StillLoops x = new StillLoops();
        due("of an empty tape", 1, () -> bit(x.end(0)));
        due("below 0", 0, () -> bit(x.end(-1)));
        due("more than it has", 0, () -> bit(x.end(1)));
        x.feed(0x20202020, 0, 0, 0, 0);
        due("21 of 20", 0, () -> bit(x.end(21)));
        due("4 of 20", 1, () -> bit(x.end(4)));
        due("5 of 4", 0, () -> bit(x.end(5)));
        due("behind the 4", 24, () -> x.feed(0x78000000, 0, 0, 0, 0));
        due("an x", ARGUMENT, x::bench);
        due("an x at 4", 4, x::fault);
        due("used up", 0, () -> bit(x.end(1)));
        promise = 2;
        tape(x, " ".repeat(381));
        due("401 would be too many", NONE, () -> x.feed(0, 0, 0, 0, 0));
        x.end(380);
        due("400 are not", 400, () -> x.feed(0, 0, 0, 0, 0));
    }

    private static void bench() {
        promise = 4;
        StillLoops x = new StillLoops();
        due("empty", 1, x::bench);
        tape(x, "    ");
        due("blanks", 2, x::bench);
        tape(x, " " + LAG + " ; law 0 b 1 filter 8;law 0;at 3lost 0 ");
        due("good", 3, x::bench);
        due("a loop", 1, () -> x.count(0));
        due("b", 1, () -> x.weight(0, 0));
        due("filter", 8, () -> x.weight(0, 2));
        due("back stays", 64, () -> x.weight(0, 3));
        due("an event", 1, () -> x.count(3));
        tape(x, "law 0 c 7;gains 0 from 5 kp 1 ki 1 kd 1;at 9 found 0;" + LAG + ";law 0 c 257");
        due("wrong", ARGUMENT, x::bench);
        due("nothing stays: c", 0, () -> x.weight(0, 1));
        due("nothing stays: sets", 1, () -> x.loop(0, 14));
        due("nothing stays: loops", 1, () -> x.count(0));
        due("nothing stays: events", 1, () -> x.count(3));
        due("nothing stays: texts", 3, () -> x.count(1));
        due("the tape is used up", 0, () -> bit(x.end(1)));
        tape(x, "loop level gain 0 tau 8 low 5 high 6 late 8 on 0;loop slow gain 999 tau 1 low -7 high -2 on 1");
        due("more loops", 4, x::bench);
        due("out at least low", 5, () -> x.loop(1, 11));
        due("pos as out", 5, () -> x.loop(1, 12));
        due("out at most high", -2, () -> x.loop(2, 11));
        due("pos as out", -2, () -> x.loop(2, 12));
        due("no late", 0, () -> x.loop(2, 3));
        due("on", 1, () -> x.loop(2, 7));
        due("slow", 2, () -> x.loop(2, 0));
        due("level", 1, () -> x.loop(1, 0));
        due("late", 8, () -> x.loop(1, 3));
        StillLoops y = told(LAG, "law 0 b 256 c 256 filter 0 back 0 stick 99 hyst 99");
        due("without blanks", 3, () -> {
            tape(y, "loop lag gain5tau8low-5high-4late1on0;at9999set0-9999;gains0kp1ki2kd3");
            return y.bench();
        });
        due("low", -5, () -> y.loop(1, 5));
        due("high", -4, () -> y.loop(1, 6));
        due("set", -9999, () -> y.event(0, 3));
        y.set(0, 50);
        y.ticks(1);
        long was = y.inner(0, 2);
        tell(y, "gains 0 kp 9999 ki 1 kd 9;law 0 b 3");
        due("I stays by gains and law", was, () -> y.inner(0, 2));
    }

    private static void benchLimits() {
        promise = 4;
        StillLoops x = new StillLoops();
        for (int n = 1; n <= 12; n++) {
            due("text " + n, n, x::bench);
        }
        due("a 13th", UNSUPPORTED, x::bench);
        tape(x, LAG);
        due("a 13th", UNSUPPORTED, x::bench);
        due("nothing came", 0, () -> x.count(0));
        due("used up", 0, () -> bit(x.end(1)));
        due("12 texts", 12, () -> x.count(1));
        tape(x, "nought");
        due("wrong goes first", ARGUMENT, x::bench);
        due("its fault", 0, x::fault);
        due("right again", UNSUPPORTED, x::bench);
        due("and read without a fault", NONE, x::fault);
    }

    private static void fault() {
        promise = 5;
        StillLoops x = told(LAG, LAG + " on 0");
        faultAt(x, "", NONE);
        faultAt(x, ";", 0);
        faultAt(x, " law 0;", 7);
        faultAt(x, "law 0 ; ", 8);
        faultAt(x, "law 0;;law 0", 6);
        faultAt(x, "law 0 law 0", 6);
        faultAt(x, "law", 3);
        faultAt(x, "law  ", 5);
        faultAt(x, "lawn 0", 0);
        faultAt(x, "lawz 0", 0);
        faultAt(x, "lawa 0", 0);
        faultAt(x, "law{ 0", 3);
        faultAt(x, "law` 0", 3);
        faultAt(x, "law /", 4);
        faultAt(x, "law :", 4);
        faultAt(x, "  Law 0", 2);
        faultAt(x, "law 0 c 5 b 3", 10);
        faultAt(x, "law 0 b 5 b 3", 10);
        faultAt(x, "law 2", 4);
        faultAt(x, "law -1", 4);
        faultAt(x, "law x", 4);
        faultAt(x, "law 0 b 5 hyst 3 !", 17);
        faultAt(x, "loop", 4);
        faultAt(x, "loop fast gain 1", 5);
        faultAt(x, "loop lag gains 1", 9);
        faultAt(x, "loop lag gain 1 tau 1 low 5 high 5", 33);
        faultAt(x, "loop lag gain 1 tau 1 low -5 high -5", 34);
        faultAt(x, "loop lag gain 1 tau 1 low -5 high -6", 34);
        faultAt(x, "loop lag gain 1 tau 1 low 9999 high 9999", 36);
        faultAt(x, "loop lag gain 1 tau 1 low 0 high 5 on 2", 38);
        faultAt(x, "loop lag gain 1 tau 1 low 0 high 5 on 1 late 2", 40);
        faultAt(new StillLoops(), LAG + " on 0", 45);
        faultAt(new StillLoops(), "law 0", 4);
        faultAt(x, "gains 0 ki 5", 8);
        faultAt(x, "gains 0 kp 5 ki 6", 17);
        faultAt(x, "curve 0 5", 9);
        faultAt(x, "curve 0 5;law 0", 9);
        faultAt(x, "curve 0 5 law", 10);
        faultAt(x, "curve 0 5 6 law", 12);
        faultAt(x, "curve 0 1 2 3 4 5 6 7 8 9", 24);
        faultAt(x, "curve 0 1 2 3 4 5 6 7 8", NONE);
        faultAt(x, "curve 0 1000 1", 8);
        faultAt(x, "curve 0 1 1000", 10);
        faultAt(x, "curve 0 1 2 1000", 12);
        faultAt(x, "curve 0 999 999 999", NONE);
        faultAt(x, "at 0 lost", 9);
        faultAt(x, "at 0 lost 0 5", 12);
        faultAt(x, "at 0 go 0", 5);
        faultAt(x, "at 0 mode 0 relay", 12);
        faultAt(x, "at 0 mode 0 cascade", 12);
        faultAt(x, "at 0 mode 1 cascade", NONE);
        due("NONE behind a good one", NONE, x::fault);
    }

    private static void faultOfNumbers() {
        promise = 5;
        StillLoops x = told(LAG);
        faultAt(x, "loop lag gain 1000 tau 1 low 0 high 5", 14);
        faultAt(x, "loop lag gain 1 tau 9 low 0 high 5", 20);
        faultAt(x, "loop lag gain 1 tau 8 low 0 high 5 late 9", 40);
        faultAt(x, "law 0 b 257", 8);
        faultAt(x, "law 0 c 257", 8);
        faultAt(x, "law 0 filter 9", 13);
        faultAt(x, "law 0 back 257", 11);
        faultAt(x, "law 0 stick 100", 12);
        faultAt(x, "law 0 hyst 100", 11);
        faultAt(x, "law 0 b 256 c 256 filter 8 back 256 stick 99 hyst 99", NONE);
        faultAt(x, "law 0000 b 0005", NONE);
        faultAt(x, "law 0 b 00005", 8);
        faultAt(x, "gains 0 kp 10000 ki 0 kd 0", 11);
        faultAt(x, "gains 0 kp 1 ki -2 kd 0", 16);
        faultAt(x, "at 0 set 0 -", 12);
        faultAt(x, "at 0 set 0 - 5", 12);
        faultAt(x, "at 0 set 0 -x", 12);
        faultAt(x, "at 0 set 0 --5", 12);
        faultAt(x, "at 0 set 0 -12345", 11);
        faultAt(x, "at 0 load 0 -1000", 12);
        faultAt(x, "at 0 load 0 1000", 12);
        faultAt(x, "at 0 load 0 -999;at 1 set 0 -0", NONE);
        faultAt(x, "at 10000 lost 0", 3);
        x.ticks(5);
        faultAt(x, "at 4 lost 0", 3);
        faultAt(x, "at 5 lost 0", NONE);
        faultAt(x, "gains 0 from -9999 kp 1 ki 1 kd 1", 13);
        faultAt(x, "gains 0 from -9998 kp 1 ki 1 kd 1", NONE);
        faultAt(x, "gains 0 from -9998 kp 1 ki 1 kd 1", 13);
    }

    private static void faultOfLimits() {
        promise = 5;
        StillLoops x = told(LAG + ";" + LAG + ";" + LAG, LAG);
        faultAt(x, "law 0; loop lag gain 1", 7);
        faultAt(x, "law0;law0;law0;law0;law0;law0;law0;law0;law0;law0;law0;law0;law0;law0", NONE);
        faultAt(x, "law0;law0;law0;law0;law0;law0;law0;law0;law0;law0;law0;law0;law0;law0; law0", 71);
        faultAt(x, "law0;law0;law0;law0;law0;law0;law0;law0;law0;law0;law0;law0;law0;law0; ", 71);
        tell(x, "gains 0 from 1 kp 1 ki 1 kd 1;gains 0 from 2 kp 1 ki 1 kd 1");
        faultAt(x, "law 0; gains 0 from 3 kp 1 ki 1 kd 1", 7);
        faultAt(x, "gains 0 kp 1 ki 1 kd 1", NONE);
        tell(x, "at 9lost0;at 9lost0;at 9lost0;at 9lost0;at 9lost0;at 9lost0;at 9lost0");
        faultAt(x, "at 5lost0; at 6lost0", 11);
        faultAt(x, "at 5lost0", NONE);
        faultAt(x, "at 5lost0", 0);
    }

    private static void loop() {
        promise = 6;
        StillLoops x = told("loop level gain 12 tau 3 low -5 high 77 late 4;loop slow gain 1 tau 0 low 3 high 4 on 0",
                "curve 0 1 2 3;gains 0 from 5 kp 1 ki 2 kd 3");
        x.load(0, -9);
        x.set(0, 40);
        x.lose(0, true);
        long[] want = {1, 12, 3, 4, -9, -5, 77, NONE, 0, 40, 0, 0, 0, 0, 2, 0, 0, 1, NONE, NONE, 3};
        for (int what = 0; what < want.length; what++) {
            int w = what;
            due("what " + what, want[what], () -> x.loop(0, w));
        }
        due("on", 0, () -> x.loop(1, 7));
        due("no curve", 0, () -> x.loop(1, 20));
        due("no such", ELEMENT, () -> x.loop(0, 21));
        due("no such", ELEMENT, () -> x.loop(0, -1));
        due("no loop", INDEX, () -> x.loop(2, 21));
        due("no loop", INDEX, () -> x.loop(-1, 0));
    }

    private static void inner() {
        promise = 7;
        StillLoops x = told("loop slow gain 256 tau 1 low 0 high 10;law 0 c 16 filter 1;gains 0 kp 2 ki 3 kd 4");
        x.out(0, 10);
        x.set(0, 5);
        x.ticks(1);
        due("Z", 1280, () -> x.inner(0, 1));
        due("Y", 640, () -> x.inner(0, 0));
        due("F: 80 by 2", 40, () -> x.inner(0, 3));
        due("R", 80, () -> x.inner(0, 4));
        due("I", 655360 - 2 * 256 * 5 - 4 * 40, () -> x.inner(0, 2));
        due("ROOM", 1000000000000L + 2L * 512 * 9999 + 4L * 2 * 272 * 9999, () -> x.inner(0, 5));
        tell(x, "gains 0 from 5 kp 9999 ki 0 kd 0;gains 0 from 6 kp 0 ki 9999 kd 9999");
        due("ROOM: the most of its sets", 1000000000000L + 9999L * 2 * 272 * 9999, () -> x.inner(0, 5));
        due("no such", ELEMENT, () -> x.inner(0, 6));
        due("no such", ELEMENT, () -> x.inner(0, -1));
        due("no loop", INDEX, () -> x.inner(1, 9));
    }

    private static void gain() {
        promise = 8;
        StillLoops x = told(LAG);
        long[] first = {-9999, 256, 64, 0};
        for (int what = 0; what < 4; what++) {
            int w = what;
            due("what " + what, first[what], () -> x.gain(0, 0, w));
        }
        tell(x, "gains 0 from -7 kp 1 ki 2 kd 3;gains 0 kp 4 ki 5 kd 6");
        long[] second = {-7, 1, 2, 3};
        long[] changed = {-9999, 4, 5, 6};
        for (int what = 0; what < 4; what++) {
            int w = what;
            due("what " + what, second[what], () -> x.gain(0, 1, w));
            due("what " + what, changed[what], () -> x.gain(0, 0, w));
        }
        due("no set", INDEX, () -> x.gain(0, 2, 9));
        due("no set", INDEX, () -> x.gain(0, -1, 0));
        due("no loop", INDEX, () -> x.gain(1, 0, 0));
        due("no such", ELEMENT, () -> x.gain(0, 0, 4));
        due("no such", ELEMENT, () -> x.gain(0, 0, -1));
    }

    private static void weight() {
        promise = 9;
        StillLoops x = told(LAG);
        long[] first = {256, 0, 2, 64, 0, 0};
        for (int what = 0; what < 6; what++) {
            int w = what;
            due("at first " + what, first[what], () -> x.weight(0, w));
        }
        tell(x, "law 0 b 1 c 2 filter 3 back 4 stick 5 hyst 6");
        for (int what = 0; what < 6; what++) {
            int w = what;
            due("told " + what, what + 1, () -> x.weight(0, w));
        }
        due("no such", ELEMENT, () -> x.weight(0, 6));
        due("no such", ELEMENT, () -> x.weight(0, -1));
        due("no loop", INDEX, () -> x.weight(1, 6));
    }

    private static void tripAndWhose() {
        StillLoops x = told(LAG + ";" + LAG + " on 0;" + LAG + " on 1", LAG + " on 2");
        x.mode(0, 1);
        x.mode(1, 2);
        x.mode(2, 2);
        x.mode(3, 2);
        x.lose(0, true);
        promise = 13;
        due("all four trip in one tick", 4, () -> x.ticks(1));
        long[] trips = {1, 1, 1, 0, NONE};
        long[] whose = {3, 2, 1, 0, NONE};
        for (int k = 0; k < 5; k++) {
            int i = k;
            promise = 10;
            due("trip " + k, trips[k], () -> x.trip(3, i));
            promise = 11;
            due("whose " + k, whose[k], () -> x.whose(3, i));
        }
        x.mode(0, 1);
        promise = 10;
        due("told again, its own is gone", NONE, () -> x.trip(0, 0));
        due("others' stay", 0, () -> x.trip(1, 1));
        due("below 0", NONE, () -> x.trip(1, -1));
        due("no loop", INDEX, () -> x.trip(4, 0));
        promise = 11;
        due("none", NONE, () -> x.whose(0, 0));
        due("others' stay", 0, () -> x.whose(1, 1));
        due("below 0", NONE, () -> x.whose(1, -1));
        due("no loop", INDEX, () -> x.whose(4, 0));
        x.mode(0, 0);
        x.mode(1, 2);
        x.mode(2, 2);
        x.lose(2, true);
        promise = 13;
        due("one that is lost itself", 1, () -> x.ticks(1));
        promise = 10;
        due("its own cause comes first", 0, () -> x.trip(2, 0));
        due("nothing behind it", NONE, () -> x.trip(2, 1));
        due("the third one's are as they were", 1, () -> x.trip(3, 2));
        x.mode(3, 2);
        x.lose(3, true);
        x.ticks(1);
        due("lost on one with trips", 0, () -> x.trip(3, 0));
        due("not by that one", NONE, () -> x.trip(3, 1));
        tell(x, "law 0");
        due("a text leaves trips", 0, () -> x.trip(3, 0));
    }

    private static void tripByStuck() {
        promise = 10;
        StillLoops x = told("loop lag gain 0 tau 0 low 0 high 10;gains 0 kp 256 ki 0 kd 0;law 0 back 0");
        x.set(0, 11);
        x.mode(0, 1);
        x.set(0, 22);
        due("at its limit", 0, () -> x.ticks(50));
        due("V 11", 1, () -> x.loop(0, 15));
        due("stuck", 50, () -> x.loop(0, 16));
        due("trips", 1, () -> x.ticks(1));
        due("by 2", 2, () -> x.trip(0, 0));
        x.mode(0, 1);
        x.set(0, 33);
        x.ticks(49);
        x.set(0, 22);
        due("one tick off the limit", 0, () -> x.ticks(1));
        due("starts anew", 0, () -> x.loop(0, 16));
        x.lose(0, true);
        x.set(0, 9999);
        x.mode(0, 0);
        due("manual trips never", 0, () -> x.ticks(60));
    }

    private static void flow() {
        promise = 12;
        StillLoops x = told("loop lag gain 1 tau 0 low 0 high 10;curve 0 0 100 50;loop lag gain 1 tau 0 low -3 high 0");
        long[][] want = {{0, 0}, {3, 60}, {5, 100}, {7, 80}, {8, 70}, {10, 50}};
        for (long[] pair : want) {
            due("flow of " + pair[0], pair[1], () -> x.flow(0, (int) pair[0]));
        }
        due("without a curve", -2, () -> x.flow(1, -2));
        tell(x, "curve 1 10 0");
        due("rounded down below 0", 6, () -> x.flow(1, -2));
        due("rounded down below 0", 3, () -> x.flow(1, -1));
        due("at high", 0, () -> x.flow(1, 0));
        due("below low", ARGUMENT, () -> x.flow(0, -1));
        due("above high", ARGUMENT, () -> x.flow(0, 11));
        due("no loop", INDEX, () -> x.flow(2, 99));
    }

    private static void ticks() {
        promise = 13;
        StillLoops x = told("loop lag gain 256 tau 0 low -100 high 100;gains 0 kp 256 ki 512 kd 256;law 0 c 128 filter 1 back 16");
        due("0", ARGUMENT, () -> x.ticks(0));
        due("61", ARGUMENT, () -> x.ticks(61));
        due("-1", ARGUMENT, () -> x.ticks(-1));
        due("60", 0, () -> x.ticks(60));
        due("tick", 60, () -> x.count(2));
        x.mode(0, 1);
        x.set(0, 200);
        x.ticks(1);
        // G = 128 * 200; F = 25600 by 2; P = 256 * 256 * 200; D = 256 * 12800; V = 200 + 50.
        due("F", 12800, () -> x.inner(0, 3));
        due("R", 25600, () -> x.inner(0, 4));
        due("OUT", 100, () -> x.loop(0, 11));
        due("AT", 1, () -> x.loop(0, 15));
        due("STUCK", 1, () -> x.loop(0, 16));
        due("I: 512 * 200 and 256 * 16 * (100 - 250)", 102400 - 614400, () -> x.inner(0, 2));
        due("PV", 100, () -> x.loop(0, 10));
        x.ticks(1);
        // G = 0: F = 12800 + (0 - 25600 - 12800) by 2 = -6400; S = 65536 * 100 - 512000 - 256 * 6400.
        due("F", -6400, () -> x.inner(0, 3));
        due("OUT: 4403200 by 65536", 67, () -> x.loop(0, 11));
        due("AT", 0, () -> x.loop(0, 15));
        due("I", -512000 + 512 * 100, () -> x.inner(0, 2));
        StillLoops y = told("loop lag gain 256 tau 0 low -10 high 10;law 0 stick 3");
        y.out(0, 3);
        y.ticks(1);
        due("sticks", 0, () -> y.loop(0, 12));
        y.out(0, 4);
        y.ticks(1);
        due("moves", 4, () -> y.loop(0, 12));
        y.out(0, 1);
        y.ticks(1);
        due("sticks", 4, () -> y.loop(0, 12));
        due("by POS", 4, () -> y.loop(0, 10));
    }

    private static void ticksPlants() {
        promise = 13;
        StillLoops x = told("loop lag gain 3 tau 1 low -100 high 100;loop level gain 3 tau 1 low -100 high 100",
                "loop slow gain 3 tau 1 low -100 high 100;loop level gain 999 tau 0 low -9999 high 9999 late 2");
        for (int k = 0; k < 4; k++) {
            x.out(k, -5);
        }
        x.out(3, -9999);
        x.ticks(1);
        due("lag: -15 by 2", -8, () -> x.inner(0, 0));
        due("level: -15 by 2", -8, () -> x.inner(1, 0));
        due("slow Z", -8, () -> x.inner(2, 1));
        due("slow Y", -4, () -> x.inner(2, 0));
        due("PV rounded down", -1, () -> x.loop(0, 10));
        x.load(0, 1);
        x.ticks(1);
        due("lag: (-15 + 256 + 8) by 2", -8 + 124, () -> x.inner(0, 0));
        due("level", -16, () -> x.inner(1, 0));
        due("slow Z: -8 and -7 by 2", -12, () -> x.inner(2, 1));
        due("slow Y: -4 and -8 by 2", -8, () -> x.inner(2, 0));
        due("late", 0, () -> x.inner(3, 0));
        x.ticks(1);
        due("Y at least", -2559744, () -> x.inner(3, 0));
        x.out(3, 9999);
        x.ticks(2);
        due("still", -2559744, () -> x.inner(3, 0));
        x.ticks(1);
        due("Y at most", 2559744, () -> x.inner(3, 0));
        due("PV at most", 9999, () -> x.loop(3, 10));
    }

    private static void ticksSets() {
        promise = 13;
        StillLoops x = told("loop lag gain 256 tau 0 low -100 high 100",
                "gains 0 from 10 kp 512 ki 0 kd 16;gains 0 from 20 kp 100 ki 0 kd 0;law 0 hyst 3");
        x.out(0, 25);
        x.ticks(1);
        due("not yet", 0, () -> x.loop(0, 13));
        x.ticks(1);
        due("over one", 2, () -> x.loop(0, 13));
        x.out(0, 17);
        x.ticks(2);
        due("not below 20 less 3", 2, () -> x.loop(0, 13));
        x.out(0, 16);
        x.ticks(2);
        due("below", 1, () -> x.loop(0, 13));
        x.set(0, 16);
        x.ticks(40);
        x.mode(0, 1);
        x.load(0, -11);
        x.ticks(1);
        due("PV 5", 5, () -> x.loop(0, 10));
        long f = x.inner(0, 3);
        long i = x.inner(0, 2);
        due("still set 1", 1, () -> x.loop(0, 13));
        x.ticks(1);
        due("set 0", 0, () -> x.loop(0, 13));
        // The gains 512, 0, 16 go over to 256, 64, 0, and the sum of P, I and D stays what it was.
        due("I makes up for it", i + (512 - 256) * 256L * (16 - 5) + 16 * f + 64 * (16 - 5), () -> x.inner(0, 2));
        due("in the log", 0, () -> x.log(0, 2));
        due("in the log", 0, () -> x.log(0, 3));
    }

    private static void ticksCascade() {
        promise = 13;
        StillLoops x = told("loop lag gain 256 tau 0 low -50 high 50;loop lag gain 0 tau 0 low -20 high 20 on 0",
                "gains 0 kp 256 ki 256 kd 0;gains 1 kp 0 ki 9999 kd 0;law 0 back 0;law 1 back 0");
        x.mode(0, 1);
        x.set(1, 70);
        x.ticks(1);
        due("follows, high at most", 50, () -> x.loop(0, 11));
        due("balanced", 65536L * 50, () -> x.inner(0, 2));
        due("feed is PV of the other one", 0, () -> x.inner(0, 0));
        x.mode(1, 2);
        due("SP is OUT", 50, () -> x.loop(1, 9));
        x.set(0, 10);
        x.ticks(1);
        due("leads: 10 more, high at most", 50, () -> x.loop(0, 11));
        due("at high", 1, () -> x.loop(0, 15));
        due("E is 2560 as the inner one was not at its limit", 65536L * 50 + 2560, () -> x.inner(0, 2));
        due("SP is OUT as it is by now", 50, () -> x.loop(1, 9));
        x.ticks(2);
        due("9999 * 100 by 65536", 15, () -> x.loop(1, 11));
        x.ticks(1);
        due("9999 * 150 by 65536: the inner one is at its limit", 1, () -> x.loop(1, 15));
        due("four times 2560", 65536L * 50 + 4 * 2560, () -> x.inner(0, 2));
        x.ticks(1);
        due("held, as the inner one was there already", 65536L * 50 + 4 * 2560, () -> x.inner(0, 2));
        x.set(0, -20);
        x.ticks(1);
        due("not held on the other side", 65536L * 50 + 2 * 2560, () -> x.inner(0, 2));
        x.mode(0, 0);
        x.out(0, -50);
        x.ticks(10);
        due("at the other limit", -1, () -> x.loop(1, 15));
        x.set(0, -1);
        x.mode(0, 1);
        x.ticks(1);
        due("held below", 65536L * -50 + 65536, () -> x.inner(0, 2));
        x.set(0, 1);
        x.ticks(1);
        due("not held above", 65536L * -50 + 65536 + 256, () -> x.inner(0, 2));
    }

    private static void ticksEvents() {
        promise = 13;
        StillLoops x = told(LAG + ";" + LAG + " on 0",
                "at 2 set 0 7;at 1 load 1 -3;at 2 mode 1 cascade;at 2 set 1 9;at 3 lost 1;at 4 found 1;at 4 mode 1 auto");
        x.ticks(1);
        due("none yet", 7, () -> x.count(3));
        x.ticks(1);
        due("load", -3, () -> x.loop(1, 4));
        due("one is gone", 6, () -> x.count(3));
        x.ticks(1);
        due("set", 7, () -> x.loop(0, 9));
        due("cascade", 2, () -> x.loop(1, 8));
        due("SP is not told in cascade", 0, () -> x.loop(1, 9));
        due("logged", 2, () -> x.log(0, 0));
        due("lost", 1, () -> x.ticks(1));
        due("manual", 0, () -> x.loop(1, 8));
        due("found", 0, () -> x.ticks(1));
        due("found", 0, () -> x.loop(1, 17));
        due("auto", 1, () -> x.loop(1, 8));
        due("all gone", 0, () -> x.count(3));
        StillLoops y = told(LAG + ";at 0 lost 0;at 0 mode 0 auto;at 3 mode 0 auto");
        due("trips once, and once more: one LOOP", 1, () -> y.ticks(10));
        due("both are in the log", 4, () -> y.count(4));
        StillLoops z = told(LAG + ";at 1 mode 0 auto");
        z.relay(0, 1, 0);
        z.ticks(2);
        due("an event ends a test as by hand: one row", 1, () -> z.count(4));
        due("the mode", 1, () -> z.log(0, 2));
    }

    private static void mode() {
        promise = 14;
        StillLoops x = told(LAG + ";" + LAG + " on 0");
        x.out(0, 30);
        x.ticks(1);
        x.set(0, 10);
        long i = x.inner(0, 2);
        due("manual already", 0, () -> x.mode(0, 0));
        due("nothing happened", i, () -> x.inner(0, 2));
        due("no row", 0, () -> x.count(4));
        due("auto", 0, () -> x.mode(0, 1));
        due("balanced", 65536 * 30 - 256 * (256 * 10 - 256 * 0), () -> x.inner(0, 2));
        due("a row", 1, () -> x.log(0, 3));
        due("cascade", 0, () -> x.mode(1, 2));
        due("SP", 30, () -> x.loop(1, 9));
        due("balanced", -256 * 256 * (30 - 0), () -> x.inner(1, 2));
        due("was cascade", 2, () -> x.mode(1, 1));
        due("SP stays", 30, () -> x.loop(1, 9));
        due("back to manual", 1, () -> x.mode(1, 0));
        StillLoops y = told("loop lag gain 0 tau 0 low 0 high 10;law 0 back 0");
        y.mode(0, 1);
        y.set(0, 99);
        y.ticks(5);
        due("at its limit", 1, () -> y.loop(0, 15));
        tell(y, "law 0");
        due("a text leaves AT", 1, () -> y.loop(0, 15));
        due("a text leaves STUCK", 5, () -> y.loop(0, 16));
        y.image();
        y.mode(0, 0);
        due("AT is 0 by that", 0, () -> y.loop(0, 15));
        due("STUCK is 0 by that", 0, () -> y.loop(0, 16));
        y.back();
        due("an image has AT", 1, () -> y.loop(0, 15));
        due("on none", STATE, () -> x.mode(0, 2));
        due("3", ARGUMENT, () -> x.mode(0, 3));
        due("-1", ARGUMENT, () -> x.mode(0, -1));
        due("no loop", INDEX, () -> x.mode(2, 3));
    }

    private static void set() {
        promise = 15;
        StillLoops x = told(LAG + ";" + LAG + " on 0");
        due("was", 0, () -> x.set(0, 9999));
        due("was", 9999, () -> x.set(0, -9999));
        due("beyond", ARGUMENT, () -> x.set(0, 10000));
        due("beyond", ARGUMENT, () -> x.set(0, -10000));
        due("stays", -9999, () -> x.loop(0, 9));
        due("I stays", 0, () -> x.inner(0, 2));
        x.mode(1, 2);
        due("in cascade", STATE, () -> x.set(1, 5));
        due("argument first", ARGUMENT, () -> x.set(1, 10000));
        due("no loop", INDEX, () -> x.set(2, 10000));
    }

    private static void out() {
        promise = 16;
        StillLoops x = told(LAG);
        x.set(0, 4);
        due("was", 0, () -> x.out(0, -100));
        due("balanced", -6553600 - 256 * 256 * 4, () -> x.inner(0, 2));
        due("POS stays", 0, () -> x.loop(0, 12));
        due("was", -100, () -> x.out(0, 100));
        due("above", ARGUMENT, () -> x.out(0, 101));
        due("below", ARGUMENT, () -> x.out(0, -101));
        x.mode(0, 1);
        due("in auto", STATE, () -> x.out(0, 1));
        due("argument first", ARGUMENT, () -> x.out(0, 101));
        due("no loop", INDEX, () -> x.out(1, 101));
    }

    private static void gains() {
        promise = 17;
        StillLoops x = told(LAG, "gains 0 from 5 kp 1 ki 1 kd 1");
        x.set(0, 50);
        due("set 0", 0, () -> x.gains(0, 100, 9999, 0));
        due("kp", 100, () -> x.gain(0, 0, 1));
        due("ki", 9999, () -> x.gain(0, 0, 2));
        due("I is more by what P is less", (256 - 100) * 256L * 50, () -> x.inner(0, 2));
        x.out(0, 8);
        x.ticks(2);
        long i = x.inner(0, 2);
        long f = x.inner(0, 3);
        due("set 1", 1, () -> x.gains(0, 1, 1, 11));
        due("D too", i - 10 * f, () -> x.inner(0, 2));
        due("kd", 11, () -> x.gain(0, 1, 3));
        due("from stays", 5, () -> x.gain(0, 1, 0));
        due("kp", ARGUMENT, () -> x.gains(0, 10000, 0, 0));
        due("ki", ARGUMENT, () -> x.gains(0, 0, -1, 0));
        due("kd", ARGUMENT, () -> x.gains(0, 0, 0, 10000));
        due("no loop", INDEX, () -> x.gains(1, -1, 0, 0));
    }

    private static void load() {
        promise = 18;
        StillLoops x = told(LAG);
        due("was", 0, () -> x.load(0, 999));
        due("was", 999, () -> x.load(0, -999));
        due("beyond", ARGUMENT, () -> x.load(0, 1000));
        due("beyond", ARGUMENT, () -> x.load(0, -1000));
        due("no loop", INDEX, () -> x.load(-1, 1000));
        x.ticks(1);
        due("256 times", -256 * 999, () -> x.inner(0, 0));
    }

    private static void lose() {
        promise = 19;
        StillLoops x = told(LAG);
        due("not lost already", 0, () -> bit(x.lose(0, false)));
        due("lost", 1, () -> bit(x.lose(0, true)));
        due("lost already", 0, () -> bit(x.lose(0, true)));
        due("is lost", 1, () -> x.loop(0, 17));
        due("found", 1, () -> bit(x.lose(0, false)));
        due("no loop", INDEX, () -> bit(x.lose(1, true)));
    }

    private static void relay() {
        promise = 20;
        StillLoops x = told("loop level gain 256 tau 0 low -10 high 10");
        due("D 0", ARGUMENT, () -> x.relay(0, 0, 0));
        due("D 1000", ARGUMENT, () -> x.relay(0, 1000, 0));
        due("H -1", ARGUMENT, () -> x.relay(0, 1, -1));
        due("H 100", ARGUMENT, () -> x.relay(0, 1, 100));
        due("no loop", INDEX, () -> x.relay(1, 0, 0));
        x.out(0, 4);
        due("above high", STATE, () -> x.relay(0, 7, 0));
        x.out(0, -4);
        due("below low", STATE, () -> x.relay(0, 7, 0));
        due("as far as it goes", 1, () -> x.relay(0, 6, 99));
        due("mode", 3, () -> x.loop(0, 8));
        due("not in manual", STATE, () -> x.relay(0, 1, 0));
        due("no row", 0, () -> x.count(4));
        due("its end by hand", 3, () -> x.mode(0, 0));
        due("its row", 1, () -> x.log(0, 2));
        x.set(0, -1);
        due("SP below PV", -1, () -> x.relay(0, 1, 0));
        x.lose(0, true);
        due("trips", 1, () -> x.ticks(1));
        due("by 0", 0, () -> x.trip(0, 0));
        due("one row", 2, () -> x.log(0, 2));
        x.lose(0, false);
        x.relay(0, 1, 0);
        due("a test that begins leaves trips", 0, () -> x.trip(0, 0));
    }

    private static void relayInTicks() {
        promise = 20;
        StillLoops x = told("loop lag gain 0 tau 0 low -10 high 10");
        x.out(0, 2);
        x.relay(0, 5, 0);
        x.ticks(60);
        due("middle and D", 7, () -> x.loop(0, 11));
        due("balanced", 65536 * 7, () -> x.inner(0, 2));
        x.ticks(60);
        x.ticks(60);
        x.ticks(59);
        due("goes on", 3, () -> x.loop(0, 8));
        x.ticks(1);
        due("too old", 0, () -> x.loop(0, 8));
        due("middle", 2, () -> x.loop(0, 11));
        due("no KU", NONE, () -> x.loop(0, 18));
        due("no TU", NONE, () -> x.loop(0, 19));
        due("its row", 3, () -> x.log(0, 2));
        due("its row", NONE, () -> x.log(0, 3));
        due("its row", 239, () -> x.log(0, 0));
        // SP jumps by hand over a PV that stands still: no SWING.
        x.relay(0, 5, 1);
        for (int up = 0; up < 4; up++) {
            due("goes on", 3, () -> x.loop(0, 8));
            x.set(0, -2);
            x.ticks(1);
            due("down", -3, () -> x.loop(0, 11));
            x.set(0, 1);
            x.ticks(3);
            due("not beyond H", -3, () -> x.loop(0, 11));
            x.set(0, 2);
            x.ticks(1);
        }
        due("ended", 0, () -> x.loop(0, 8));
        due("KU without a swing", 9999, () -> x.loop(0, 18));
        due("TU", 5, () -> x.loop(0, 19));
        due("its row", 9999, () -> x.log(0, 3));
        x.relay(0, 1, 0);
        due("a new test: no KU", NONE, () -> x.loop(0, 18));
        due("a new test: no TU", NONE, () -> x.loop(0, 19));
    }

    private static void relayMeasures() {
        promise = 20;
        StillLoops x = told("loop level gain 2 tau 0 low -355 high 355;curve 0 0 512");
        x.load(0, -2);
        x.relay(0, 355, 15);
        x.ticks(60);
        x.ticks(60);
        // Y goes by 512 from -4096 to 4096 and back: 2 to the 19 times 113 by 8192.
        due("not yet", NONE, () -> x.loop(0, 18));
        x.ticks(60);
        due("KU", 7232, () -> x.loop(0, 18));
        due("TU", 32, () -> x.loop(0, 19));
        relayFromAfar(40);
        relayFromAfar(-40);
    }

    /** Only what is behind the third up counts, however far away the test began. */
    private static void relayFromAfar(int out) {
        StillLoops x = told("loop level gain 999 tau 0 low -40 high 40");
        x.out(0, out);
        x.ticks(1);
        x.out(0, 0);
        due("Y at first", 999 * out, () -> x.inner(0, 0));
        due("side", out > 0 ? -1 : 1, () -> x.relay(0, 1, 3));
        x.image();
        int age = 0;
        while (x.loop(0, 8) == 3 && age < 240) {
            x.ticks(1);
            age++;
        }
        due("KU", 55, () -> x.loop(0, 18));
        due("TU", 6, () -> x.loop(0, 19));
        x.back();
        for (int t = 2; t < age; t++) {
            x.ticks(1);
        }
        x.image();
        x.ticks(2);
        x.relay(0, 40, 0);
        x.ticks(3);
        x.back();
        due("back in the test", 3, () -> x.loop(0, 8));
        x.ticks(2);
        due("an image has what the test has: KU", 55, () -> x.loop(0, 18));
        due("an image has what the test has: TU", 6, () -> x.loop(0, 19));
    }

    private static StillLoops tested() {
        StillLoops x = told("loop level gain 256 tau 0 low -10 high 10");
        x.relay(0, 5, 2);
        x.ticks(16);
        return x;
    }

    private static void tune() {
        promise = 21;
        StillLoops x = tested();
        due("KU", 325, () -> x.loop(0, 18));
        due("TU", 4, () -> x.loop(0, 19));
        long i = x.inner(0, 2);
        due("rule 0", 195, () -> x.tune(0, 0));
        due("kp", 195, () -> x.gain(0, 0, 1));
        due("ki at most", 9999, () -> x.gain(0, 0, 2));
        due("kd", 97, () -> x.gain(0, 0, 3));
        due("I as by gains", i + (256 - 195) * -256L * x.loop(0, 10) - 97 * x.inner(0, 3), () -> x.inner(0, 2));
        due("rule 1", 146, () -> x.tune(0, 1));
        due("ki: 224256 by 20", 9999, () -> x.gain(0, 0, 2));
        due("kd", 0, () -> x.gain(0, 0, 3));
        due("rule 2", 108, () -> x.tune(0, 2));
        due("kd", 144, () -> x.gain(0, 0, 3));
        due("rule 3", ARGUMENT, () -> x.tune(0, 3));
        due("rule -1", ARGUMENT, () -> x.tune(0, -1));
        due("no loop", INDEX, () -> x.tune(1, 3));
        StillLoops y = told(LAG);
        due("no KU", STATE, () -> y.tune(0, 0));
        due("argument first", ARGUMENT, () -> y.tune(0, 3));
        StillLoops z = told("loop level gain 999 tau 0 low -10 high 10");
        z.relay(0, 1, 3);
        z.ticks(30);
        // Y goes round by 999 from -999 to 1998 and back, six ticks in all.
        due("KU: 59244544 by (355 * 2997)", 55, () -> z.loop(0, 18));
        due("TU", 6, () -> z.loop(0, 19));
        due("rule 0", 33, () -> z.tune(0, 0));
        due("ki: 16896 by 6", 2816, () -> z.gain(0, 0, 2));
        due("kd: 198 by 8", 24, () -> z.gain(0, 0, 3));
        due("rule 1", 24, () -> z.tune(0, 1));
        due("ki: 36864 by 30", 1228, () -> z.gain(0, 0, 2));
        due("rule 2", 18, () -> z.tune(0, 2));
        due("ki: 9216 by 6", 1536, () -> z.gain(0, 0, 2));
        due("kd: 108 by 3", 36, () -> z.gain(0, 0, 3));
    }

    private static void bump() {
        promise = 22;
        StillLoops x = told(LAG + ";" + LAG + " on 0;gains 0 kp 0 ki 0 kd 0");
        x.out(0, 40);
        x.set(1, 90);
        due("manual to auto: follows", 50, () -> x.bump(0, 1));
        due("manual stays", 0, () -> x.bump(0, 0));
        due("cascade without a bump", 0, () -> x.bump(1, 2));
        due("on none", STATE, () -> x.bump(0, 2));
        due("3", ARGUMENT, () -> x.bump(0, 3));
        due("no loop", INDEX, () -> x.bump(2, 3));
        due("nothing stays", 0, () -> x.loop(1, 8));
        due("nothing stays", 0, () -> x.count(4));
        due("nothing stays", 0, () -> x.count(2));
        x.relay(0, 7, 0);
        due("of a test to manual", 0, () -> x.bump(0, 0));
        tell(x, "at 0 mode 0 manual");
        x.set(0, 5);
        x.mode(1, 1);
        due("without events: goes on as told", 50, () -> x.bump(0, 1));
    }

    private static StillLoops swinging() {
        StillLoops x = told("loop lag gain 256 tau 0 low -10 high 10;gains 0 kp 256 ki 0 kd 0;law 0 filter 0 back 0");
        x.mode(0, 1);
        return x;
    }

    private static void round() {
        promise = 23;
        StillLoops x = swinging();
        due("at rest: M", 0, () -> x.round(false));
        due("at rest: N", 1, () -> x.round(true));
        x.load(0, 3);
        due("swings: M, by nine feeds", 9, () -> x.round(false));
        due("swings: N", 2, () -> x.round(true));
        due("nothing stays", 0, () -> x.count(2));
        x.ticks(9);
        due("in it already: M", 0, () -> x.round(false));
        due("in it already: N", 2, () -> x.round(true));
        StillLoops y = told("loop level gain 1 tau 0 low 0 high 10");
        y.out(0, 1);
        due("fills up for too long", NONE, () -> y.round(false));
        due("fills up for too long", NONE, () -> y.round(true));
        y.relay(0, 1, 0);
        due("a test grows older", NONE, () -> y.round(true));
        StillLoops z = told("loop level gain 256 tau 0 low 0 high 999;law 0 filter 0;at 0 set 0 5");
        z.out(0, 51);
        // PV is full after 197 ticks (51 * 197 = 10047); R and then F need one tick more each.
        due("M and N are 200", 199, () -> z.round(false));
        due("N", 1, () -> z.round(true));
        StillLoops late = told("loop level gain 256 tau 0 low 0 high 999 late 1;law 0 filter 0");
        late.out(0, 51);
        due("M and N would be 201", NONE, () -> late.round(false));
        StillLoops stuck = told("loop lag gain 0 tau 0 low 0 high 10;gains 0 kp 256 ki 0 kd 0;law 0 back 0");
        stuck.mode(0, 1);
        stuck.set(0, 22);
        // 50 ticks at the limit, then it trips; I is balanced in the same tick, and all is still.
        due("STUCK alone grows: M", 51, () -> stuck.round(false));
        due("STUCK alone grows: N", 1, () -> stuck.round(true));
        StillLoops e = new StillLoops();
        due("no loops: M", 0, () -> e.round(false));
        due("no loops: N", 1, () -> e.round(true));
    }

    private static void sweep() {
        promise = 24;
        StillLoops x = swinging();
        due("at rest", 0, () -> x.sweep(0));
        x.load(0, 3);
        due("swings from 0 to 3", 3, () -> x.sweep(0));
        x.ticks(9);
        due("from 3 on", 3, () -> x.sweep(0));
        x.ticks(1);
        due("from 0 on", 3, () -> x.sweep(0));
        StillLoops z = swinging();
        z.load(0, 3);
        z.ticks(1);
        z.load(0, 0);
        due("swings from -3 to 3", 6, () -> z.sweep(0));
        z.ticks(13);
        due("swings from -3 to 3", 6, () -> z.sweep(0));
        z.ticks(1);
        due("swings from -3 to 3", 6, () -> z.sweep(0));
        due("no loop", INDEX, () -> x.sweep(1));
        due("no loop", INDEX, () -> x.sweep(-1));
        StillLoops y = told("loop level gain 1 tau 0 low 0 high 10");
        y.out(0, 1);
        due("no round", NONE, () -> y.sweep(0));
    }

    private static void starts() {
        promise = 25;
        StillLoops x = swinging();
        long[] want = {1, 8, 0, 4, 2};
        for (int what = 0; what < 5; what++) {
            int w = what;
            due("what " + what, want[what], () -> x.starts(0, w));
        }
        due("no such", ELEMENT, () -> x.starts(0, 5));
        due("no such", ELEMENT, () -> x.starts(0, -1));
        due("no loop", INDEX, () -> x.starts(1, 5));
        StillLoops y = told("loop level gain 999 tau 0 low -9999 high 9999");
        y.out(0, 9999);
        y.ticks(1);
        y.out(0, 0);
        y.ticks(10);
        y.load(0, 1);
        due("Y as far as it may be: all at rest", 9, () -> y.starts(0, 0));
        due("of one tick", 1, () -> y.starts(0, 4));
        y.load(0, -1);
        due("all run dry for too long", 9, () -> y.starts(0, 2));
        due("no round", 0, () -> y.starts(0, 4));
        due("nothing stays", 2559744, () -> y.inner(0, 0));
    }

    private static void step() {
        promise = 26;
        StillLoops x = told("loop lag gain 256 tau 0 low -100 high 100;gains 0 kp 0 ki 256 kd 0");
        due("not in auto", STATE, () -> x.step(0, 5, 0));
        due("size 0", ARGUMENT, () -> x.step(0, 0, 0));
        due("size 1000", ARGUMENT, () -> x.step(0, 1000, 0));
        due("size -1000", ARGUMENT, () -> x.step(0, -1000, 0));
        due("no such", ELEMENT, () -> x.step(0, 0, 4));
        due("no such", ELEMENT, () -> x.step(0, 0, -1));
        due("no loop", INDEX, () -> x.step(1, 0, 4));
        StillLoops y = told("loop lag gain 0 tau 0 low -100 high 100");
        y.mode(0, 1);
        y.load(0, 7);
        y.set(0, 2);
        // PV is 7 from AHEAD 1 on, SP is 7 then 5.
        due("meets", 0, () -> y.step(0, 5, 0));
        due("at 1", 1, () -> y.step(0, 5, 1));
        due("settled from 1", 1, () -> y.step(0, 5, 2));
        due("sum", 0, () -> y.step(0, 5, 3));
        due("beyond", 2, () -> y.step(0, 3, 0));
        due("beyond from 1", 1, () -> y.step(0, 3, 1));
        due("never settled", NONE, () -> y.step(0, 3, 2));
        due("sum", 200, () -> y.step(0, 3, 3));
        due("off by one", 1, () -> y.step(0, 4, 2));
        due("never met", NONE, () -> y.step(0, 6, 1));
        due("down: not beyond", 0, () -> y.step(0, -3, 0));
        due("down: never", NONE, () -> y.step(0, -3, 1));
        due("down: sum", 800, () -> y.step(0, -3, 3));
        y.set(0, 6);
        due("by 1: meets", 1, () -> y.step(0, 1, 1));
        due("by -1: never", NONE, () -> y.step(0, -1, 1));
        y.set(0, 8);
        due("by -1: meets", 1, () -> y.step(0, -1, 1));
        y.set(0, 10);
        due("by -1: beyond", 2, () -> y.step(0, -1, 0));
        due("by 1: not beyond", 0, () -> y.step(0, 1, 0));
        y.set(0, -385);
        due("50 times 8 is 400", 1, () -> y.step(0, 400, 2));
        y.set(0, -384);
        due("50 times 8 is more than 399", NONE, () -> y.step(0, 399, 2));
        y.set(0, 9990);
        due("SP 9999 at most", 100 * (9999 - 7), () -> y.step(0, 999, 3));
        due("nothing stays", 9990, () -> y.loop(0, 9));
    }

    private static void twin() {
        promise = 27;
        StillLoops x = told("loop lag gain 1 tau 1 low 0 high 10");
        due("0", 0, () -> x.twin(0));
        due("61", ARGUMENT, () -> x.twin(61));
        due("-1", ARGUMENT, () -> x.twin(-1));
        x.out(0, 1);
        // 1 by 2 is 0 here and 0.5 there: 0.5 / 256 * 1000 is 1.95; then 1 by 2 is 0 and (1 - 0.5) / 2 more.
        due("half a unit of Y", 1, () -> x.twin(1));
        due("0.75 / 256 * 1000", 2, () -> x.twin(2));
        due("nearly one", 3, () -> x.twin(60));
        x.relay(0, 1, 0);
        due("in relay", STATE, () -> x.twin(1));
        due("argument first", ARGUMENT, () -> x.twin(61));
        StillLoops y = told("loop lag gain 256 tau 0 low 0 high 10;curve 0 0 5 7;gains 0 kp 0 ki 8192 kd 0;law 0 back 0");
        y.set(0, 4);
        y.mode(0, 1);
        // I grows by 8192 * 4 a tick, half a unit of OUT: 0, then 0.5 there, which lets 0.5 through.
        due("no gap yet", 0, () -> y.twin(1));
        due("half", 500, () -> y.twin(2));
        due("nothing stays", 0, () -> y.count(2));
    }

    private static void twinOfMany() {
        promise = 27;
        String plain = "loop lag gain 256 tau 0 low -10 high 10";
        StillLoops x = told(plain + ";" + plain + " on 0;gains 1 kp 128 ki 0 kd 0;law 1 back 0",
                "gains 0 kp 0 ki 8192 kd 0;law 0 back 0");
        x.mode(1, 2);
        x.mode(0, 1);
        x.set(0, 4);
        // OUT of 0 is 0, then 0.5 there and 0 here; SP of 1 goes with it, and half of that is OUT of 1.
        due("no gap yet", 0, () -> x.twin(1));
        due("in cascade: a quarter", 250, () -> x.twin(2));
        x.mode(1, 1);
        x.set(1, 6);
        due("following: P of 1 is 3 on both sides", 0, () -> x.twin(1));
        x.set(1, 7);
        due("following: 3.5 there", 500, () -> x.twin(1));
        StillLoops y = told(plain + ";gains 0 kp 0 ki 8192 kd 0;law 0 back 0 stick 2");
        y.mode(0, 1);
        y.set(0, 4);
        // OUT grows by a half there: 2 apart stick, 2.5 do not; here 2 is OUT then, and 3 at the next but one.
        due("sticks", 0, () -> y.twin(5));
        due("no more", 2500, () -> y.twin(6));
    }

    private static void ahead() {
        promise = 28;
        StillLoops x = told("loop lag gain 256 tau 0 low -100 high 100;at 0 load 0 50");
        x.set(0, 3);
        x.mode(0, 1);
        x.set(0, 8);
        due("0: PV", 0, () -> x.ahead(0, 0, false));
        due("0: OUT", 0, () -> x.ahead(0, 0, true));
        due("1: OUT", 5, () -> x.ahead(0, 1, true));
        due("1: PV, without events", 5, () -> x.ahead(0, 1, false));
        due("61", ARGUMENT, () -> x.ahead(0, 61, false));
        due("-1", ARGUMENT, () -> x.ahead(0, -1, false));
        due("no loop", INDEX, () -> x.ahead(1, 61, false));
        due("nothing stays", 0, () -> x.count(2));
        due("the event waits", 1, () -> x.count(3));
    }

    private static void peak() {
        promise = 29;
        StillLoops x = told("loop lag gain 0 tau 0 low 0 high 10;gains 0 kp 256 ki 0 kd 0;law 0 back 0");
        x.mode(0, 1);
        x.set(0, -40);
        due("0", 0, () -> x.peak(0, 0));
        due("without its sign", 65536 * 40, () -> x.peak(0, 1));
        due("60", 65536 * 40, () -> x.peak(0, 60));
        due("61", ARGUMENT, () -> x.peak(0, 61));
        due("-1", ARGUMENT, () -> x.peak(0, -1));
        due("no loop", INDEX, () -> x.peak(1, 61));
        x.mode(0, 0);
        due("not in manual", 0, () -> x.peak(0, 60));
        tell(x, LAG + " on 0");
        x.mode(0, 1);
        x.set(1, 8);
        due("not while following", 0, () -> x.peak(0, 60));
    }

    private static void hunts() {
        promise = 30;
        StillLoops x = swinging();
        x.load(0, 3);
        due("never below", 0, () -> x.hunts(0, 20));
        x.mode(0, 0);
        x.mode(0, 1);
        x.set(0, 1);
        // I is as for SP 0, so OUT is 1 - PV: PV goes 0, 4, 0, 4 ...
        due("0", 0, () -> x.hunts(0, 0));
        due("up", 1, () -> x.hunts(0, 1));
        due("and down", 2, () -> x.hunts(0, 2));
        due("60", 60, () -> x.hunts(0, 60));
        due("61", ARGUMENT, () -> x.hunts(0, 61));
        due("-1", ARGUMENT, () -> x.hunts(0, -1));
        due("no loop", INDEX, () -> x.hunts(1, 61));
    }

    private static void worst() {
        promise = 31;
        StillLoops x = told(LAG + ";" + LAG + ";" + LAG);
        due("alike: the least", 0, () -> x.worst(0));
        x.set(1, -5);
        x.set(2, 5);
        due("of several the least", 1, () -> x.worst(0));
        x.out(2, -1);
        due("ahead", 2, () -> x.worst(1));
        due("61", ARGUMENT, () -> x.worst(61));
        due("-1", ARGUMENT, () -> x.worst(-1));
        StillLoops y = new StillLoops();
        due("none", NONE, () -> y.worst(60));
    }

    private static void which() {
        promise = 32;
        StillLoops x = told("loop lag gain 0 tau 0 low -10 high 10;loop lag gain 0 tau 0 low -10 high 10 on 0",
                "loop lag gain 0 tau 0 low -10 high 10;loop lag gain 0 tau 0 low -10 high 10;law 2 back 0;law 3 back 0");
        x.mode(0, 1);
        due("following", 1, () -> x.which(8));
        x.mode(1, 2);
        due("not when it leads", 0, () -> x.which(8));
        x.mode(2, 1);
        x.mode(3, 1);
        x.set(2, 11);
        x.set(3, -11);
        x.ticks(1);
        due("at 1", 4, () -> x.which(5));
        due("at -1", 8, () -> x.which(6));
        x.lose(3, true);
        x.ticks(1);
        x.out(3, 0);
        x.relay(3, 1, 0);
        long[] want = {0, 5, 2, 8, 8, 4, 0, 8, 0};
        for (int what = 0; what <= 8; what++) {
            int w = what;
            due("what " + what, want[what], () -> x.which(w));
        }
        due("no such", ELEMENT, () -> x.which(9));
        due("no such", ELEMENT, () -> x.which(-1));
    }

    private static void event() {
        promise = 33;
        StillLoops x = told(LAG + ";" + LAG + " on 0",
                "at 7 set 0 -6;at 6 load 1 5;at 5 lost 1;at 4 found 0;at 3 mode 1 cascade");
        long[][] want = {{7, 0, 0, -6}, {6, 1, 1, 5}, {5, 2, 1, 0}, {4, 3, 0, 0}, {3, 4, 1, 2}};
        for (int k = 0; k < 5; k++) {
            for (int what = 0; what < 4; what++) {
                int i = k;
                int w = what;
                due("event " + k + ", what " + what, want[k][what], () -> x.event(i, w));
            }
        }
        due("no such", ELEMENT, () -> x.event(0, 4));
        due("no such", ELEMENT, () -> x.event(0, -1));
        due("no event", INDEX, () -> x.event(5, 4));
        due("no event", INDEX, () -> x.event(-1, 0));
        x.ticks(5);
        due("two are gone", 5, () -> x.event(2, 0));
        due("two are gone", INDEX, () -> x.event(3, 0));
    }

    private static void log() {
        promise = 34;
        StillLoops x = told(LAG);
        due("none", NONE, () -> x.log(0, 0));
        due("no such", ELEMENT, () -> x.log(0, 4));
        due("no such", ELEMENT, () -> x.log(0, -1));
        for (int k = 0; k < 35; k++) {
            x.mode(0, 1);
            x.ticks(1);
            x.mode(0, 0);
        }
        due("rows", 60, () -> x.count(4));
        due("the latest: tick", 35, () -> x.log(0, 0));
        due("the latest: loop", 0, () -> x.log(0, 1));
        due("the latest: mode", 1, () -> x.log(0, 2));
        due("the latest: manual", 0, () -> x.log(0, 3));
        due("one ago: auto", 1, () -> x.log(1, 3));
        due("the oldest", 5, () -> x.log(59, 0));
        due("beyond", NONE, () -> x.log(60, 0));
        due("below 0", NONE, () -> x.log(-1, 0));
    }

    private static void imageAndBack() {
        promise = 36;
        StillLoops x = told(LAG);
        due("none kept", 0, () -> bit(x.back()));
        tell(x, "at 9 lost 0");
        x.out(0, 10);
        x.ticks(2);
        x.mode(0, 1);
        promise = 35;
        x.image();
        x.set(0, 77);
        x.gains(0, 1, 2, 3);
        x.lose(0, true);
        x.ticks(9);
        tell(x, LAG + ";law 0 c 9;curve 0 1 2");
        tape(x, "law 0 c 8 ; quux");
        due("an image keeps nothing back", 5, () -> x.loop(0, 20) + x.count(1));
        promise = 36;
        due("back", 1, () -> bit(x.back()));
        due("texts", 2, () -> x.count(1));
        due("loops", 1, () -> x.count(0));
        due("tick", 2, () -> x.count(2));
        due("events", 1, () -> x.count(3));
        due("log", 1, () -> x.count(4));
        due("SP", 0, () -> x.loop(0, 9));
        due("mode", 1, () -> x.loop(0, 8));
        due("PV", 10, () -> x.loop(0, 10));
        due("lost", 0, () -> x.loop(0, 17));
        due("curve", 0, () -> x.loop(0, 20));
        due("kp", 256, () -> x.gain(0, 0, 1));
        due("c", 0, () -> x.weight(0, 1));
        due("the tape stays", ARGUMENT, x::bench);
        due("fault", 12, x::fault);
        x.ticks(3);
        due("once more", 1, () -> bit(x.back()));
        due("fault stays", 12, x::fault);
        due("tick", 2, () -> x.count(2));
    }

    /** A LOOP that was gone back behind and is told anew has nothing of the old one. */
    private static void toldAnew() {
        promise = 36;
        StillLoops x = told("");
        x.image();
        tell(x, "loop slow gain 9 tau 1 low -100 high 100 late 3;gains 0 from 1 kp 1 ki 1 kd 1;curve 0 5 6 7",
                "law 0 b 1 c 2 filter 3 back 4 stick 5 hyst 6");
        x.load(0, 5);
        x.out(0, 90);
        x.relay(0, 1, 0);
        x.ticks(60);
        x.mode(0, 1);
        x.set(0, 9000);
        x.lose(0, true);
        x.ticks(1);
        x.mode(0, 1);
        x.lose(0, false);
        x.ticks(30);
        x.lose(0, true);
        x.ticks(1);
        x.mode(0, 1);
        x.ticks(1);
        tell(x, "law 0");
        x.back();
        due("no loop", 0, () -> x.count(0));
        tell(x, "loop slow gain 9 tau 1 low 5 high 100");
        long[] loop = {2, 9, 1, 0, 0, 5, 100, NONE, 0, 0, 0, 5, 5, 0, 1, 0, 0, 0, NONE, NONE, 0};
        long[] weight = {256, 0, 2, 64, 0, 0};
        for (int what = 0; what < loop.length; what++) {
            int w = what;
            due("loop " + what, loop[what], () -> x.loop(0, w));
        }
        for (int what = 0; what < weight.length; what++) {
            int w = what;
            due("weight " + what, weight[what], () -> x.weight(0, w));
            due("inner " + what, what < 5 ? 0 : 1001310588928L, () -> x.inner(0, w));
        }
        due("trips", NONE, () -> x.trip(0, 0));
        due("kp", 256, () -> x.gain(0, 0, 1));
        due("ki", 64, () -> x.gain(0, 0, 2));
        due("kd", 0, () -> x.gain(0, 0, 3));
        x.out(0, 9);
        x.ticks(9);
        x.lose(0, true);
        x.set(0, 100);
        x.mode(0, 1);
        x.lose(0, false);
        x.ticks(3);
        tell(x, "law 0");
        x.back();
        tell(x, "loop level gain 256 tau 0 low 0 high 9 late 8");
        due("mode", 0, () -> x.loop(0, 8));
        due("SP", 0, () -> x.loop(0, 9));
        x.ticks(60);
        due("feeds", 0, () -> x.inner(0, 0));
    }

    private static void count() {
        promise = 37;
        StillLoops x = told(LAG + ";" + LAG, "at 50 lost 0");
        x.mode(0, 1);
        x.mode(1, 1);
        x.mode(1, 0);
        x.ticks(7);
        long[] want = {2, 2, 7, 1, 3};
        for (int what = 0; what < 5; what++) {
            int w = what;
            due("what " + what, want[what], () -> x.count(w));
        }
        due("another", NONE, () -> x.count(5));
        due("another", NONE, () -> x.count(-1));
    }
}
