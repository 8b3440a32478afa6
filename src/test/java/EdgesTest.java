/** A TICK and what is ahead of it: each sentence that names a bound, from both of its sides, reckoned by hand. */
public final class EdgesTest extends Checks {
    private static final long I_MOST = 1000000000000L;
    private static final int Y_MOST = 2559744;
    /** PV is what LOAD was, a TICK later. */
    private static final String STILL = "loop lag gain 0 tau 0 low -10 high 10";
    /** PV is one more by each TICK, with a LOAD of 1. */
    private static final String RISING = "loop level gain 0 tau 0 low -10 high 10";

    public static void main(String[] args) {
        eventsInOrder();
        eventsInCascade();
        tripsOfTheLost();
        tripsOfTheStuck();
        stuckOnBothSides();
        tripsBehindTrips();
        setsUpAndDown();
        setsOverTwo();
        filters();
        limits();
        held();
        boundsOfI();
        boundsOfIInTicks();
        sticks();
        plants();
        lates();
        feedsOfTheLeast();
        following();
        flows();
        modesTold();
        relaySides();
        relayAges();
        relayUps();
        relayKu();
        relayInImages();
        tuned();
        logRows();
        logOfSixty();
        logTicks();
        bumps();
        peaks();
        hunts();
        worst();
        aheads();
        rounds();
        roundsOfTwo();
        roundsByLate();
        longRounds();
        roundsOfTwoHundred();
        sweepFromNow();
        starts();
        startsByLate();
        startsAtTheBounds();
        startsByTrips();
        startsByTests();
        steps();
        stepsToHundred();
        twins();
        twinsOfLaws();
        twinsOfPlants();
        twinsOfValves();
        twinsOfMany();
        rooms();
        images();
        toldAnew();
        whiches();
        finish("checks of edges");
    }

    private static void eventsInOrder() {
        promise = 13;
        StillLoops x = told(LAG, "at 2 set 0 5;at 1 set 0 6;at 2 set 0 7;at 3 load 0 8;at 0 load 0 9");
        x.ticks(1);
        due("a time of TICK: at once", 9, () -> x.loop(0, 4));
        due("a time above TICK: not yet", 0, () -> x.loop(0, 9));
        due("it is gone", 4, () -> x.count(3));
        x.ticks(1);
        due("by time", 6, () -> x.loop(0, 9));
        due("those that wait stay as told", 2, () -> x.event(0, 0));
        x.ticks(1);
        due("of one time in the order in which they were told", 7, () -> x.loop(0, 9));
        due("one waits", 1, () -> x.count(3));
        due("not yet", 9, () -> x.loop(0, 4));
        x.ticks(1);
        due("now", 8, () -> x.loop(0, 4));
        due("none waits", 0, () -> x.count(3));
        StillLoops y = told(LAG + ";at 5 lost 0;at 5 found 0;at 5 lost 0;at 6 found 0");
        y.ticks(6);
        due("the last one of a TICK stays", 1, () -> y.loop(0, 17));
        y.ticks(1);
        due("found", 0, () -> y.loop(0, 17));
        StillLoops z = told(LAG + ";at 1 set 0 -9999;at 0 set 0 9999");
        z.ticks(1);
        due("the most", 9999, () -> z.loop(0, 9));
        z.ticks(1);
        due("the least", -9999, () -> z.loop(0, 9));
    }

    private static void eventsInCascade() {
        promise = 13;
        StillLoops x = told(STILL + ";" + STILL + " on 0;at 0 set 1 5;at 1 set 1 6;at 2 mode 1 auto;at 2 set 1 7");
        x.out(0, 3);
        x.mode(1, 2);
        x.ticks(1);
        due("SP is not told in CASCADE", 3, () -> x.loop(1, 9));
        due("yet it is gone", 3, () -> x.count(3));
        x.ticks(2);
        due("behind a change of MODE in the same TICK it is told", 7, () -> x.loop(1, 9));
        due("all are gone", 0, () -> x.count(3));
    }

    private static void tripsOfTheLost() {
        promise = 13;
        StillLoops x = told(STILL + ";" + STILL + " on 0;" + STILL + ";" + STILL);
        for (int k = 0; k < 4; k++) {
            x.lose(k, true);
        }
        due("in MANUAL none trips", 0, () -> x.ticks(1));
        x.mode(0, 1);
        due("in AUTO", 1, () -> x.ticks(60));
        due("MANUAL by that", 0, () -> x.loop(0, 8));
        x.mode(1, 2);
        due("in CASCADE", 1, () -> x.ticks(1));
        due("0, though the other one has TRIPS", 0, () -> x.trip(1, 0));
        due("nothing behind it", NONE, () -> x.trip(1, 1));
        x.relay(2, 1, 0);
        due("in RELAY", 1, () -> x.ticks(1));
        due("0", 0, () -> x.trip(2, 0));
        due("no KU", NONE, () -> x.loop(2, 18));
        x.mode(0, 1);
        x.mode(1, 2);
        x.relay(2, 1, 0);
        x.mode(3, 1);
        due("all four", 4, () -> x.ticks(1));
        due("each its own", 0, () -> x.trip(1, 0));
        x.lose(3, false);
        x.mode(3, 1);
        due("found again", 0, () -> x.ticks(60));
    }

    /** LOOP 0 holds its OUT of 10 in AUTO; LOOP 1 goes up to its limit in CASCADE, and stays there. */
    private static StillLoops stuckInCascade(int ticks) {
        StillLoops x = told(STILL + ";" + STILL + " on 0;gains 0 kp 0 ki 0 kd 0;gains 1 kp 0 ki 9999 kd 0;law 1 back 0");
        x.out(0, 10);
        x.mode(0, 1);
        x.mode(1, 2);
        // I is 99990 more by each TICK: V is 10 in the 8th (7 times 99990 by 65536) and 12 in the 9th.
        ticks(x, ticks);
        return x;
    }

    private static void tripsOfTheStuck() {
        promise = 13;
        StillLoops x = stuckInCascade(8);
        due("V 10 is HIGH", 10, () -> x.loop(1, 11));
        due("not AT it", 0, () -> x.loop(1, 15));
        due("not STUCK", 0, () -> x.loop(1, 16));
        x.ticks(1);
        due("V 12 is above HIGH", 1, () -> x.loop(1, 15));
        due("STUCK", 1, () -> x.loop(1, 16));
        due("49 TICKS more", 0, () -> x.ticks(49));
        due("50", 50, () -> x.loop(1, 16));
        x.image();
        due("it trips in CASCADE", 1, () -> x.ticks(1));
        due("2", 2, () -> x.trip(1, 0));
        due("nothing behind it", NONE, () -> x.trip(1, 1));
        due("MANUAL", 0, () -> x.loop(1, 8));
        due("AT", 0, () -> x.loop(1, 15));
        due("STUCK", 0, () -> x.loop(1, 16));
        due("OUT stays", 10, () -> x.loop(1, 11));
        x.back();
        x.lose(0, true);
        due("both trip", 2, () -> x.ticks(1));
        due("1 comes before 2", 1, () -> x.trip(1, 0));
        due("behind it the other one's", 0, () -> x.trip(1, 1));
        x.back();
        x.lose(0, true);
        x.lose(1, true);
        due("both trip", 2, () -> x.ticks(1));
        due("0 comes before 1", 0, () -> x.trip(1, 0));
        due("nothing behind it", NONE, () -> x.trip(1, 1));
        x.back();
        x.mode(1, 1);
        due("STUCK 0 by a MODE told", 0, () -> x.loop(1, 16));
        x.lose(0, true);
        due("in AUTO it does not trip with the other one", 1, () -> x.ticks(1));
        due("still in AUTO", 1, () -> x.loop(1, 8));
        StillLoops y = stuckInCascade(57);
        due("49", 49, () -> y.loop(1, 16));
        due("not yet", 0, () -> y.ticks(1));
        due("now", 1, () -> y.ticks(1));
    }

    private static void stuckOnBothSides() {
        promise = 13;
        StillLoops x = told(STILL + ";gains 0 kp 256 ki 0 kd 0;law 0 back 0");
        x.mode(0, 1);
        x.set(0, 11);
        x.ticks(25);
        x.set(0, -11);
        x.ticks(1);
        due("AT - 1", -1, () -> x.loop(0, 15));
        due("from one side to the other STUCK goes on", 26, () -> x.loop(0, 16));
        x.ticks(24);
        due("50", 50, () -> x.loop(0, 16));
        x.set(0, 0);
        due("it trips, even if it would go off", 1, () -> x.ticks(1));
        x.out(0, 0);
        x.mode(0, 1);
        x.set(0, -11);
        x.ticks(49);
        x.set(0, -10);
        due("off in the 50th", 0, () -> x.ticks(1));
        due("STUCK 0", 0, () -> x.loop(0, 16));
        due("and for ever", 0, () -> x.ticks(60));
    }

    private static void tripsBehindTrips() {
        StillLoops x = told(STILL + ";" + STILL + " on 0;" + STILL + " on 1;" + STILL + " on 2");
        for (int k = 0; k < 4; k++) {
            x.mode(k, k == 0 ? 1 : 2);
        }
        x.lose(1, true);
        promise = 13;
        due("three trip", 3, () -> x.ticks(1));
        promise = 10;
        due("the leader does not", NONE, () -> x.trip(0, 0));
        long[][] trips = {{NONE}, {0, NONE}, {1, 0, NONE}, {1, 1, 0, NONE}};
        for (int k = 0; k < 4; k++) {
            for (int n = 0; n < trips[k].length; n++) {
                int loop = k;
                int which = n;
                promise = 10;
                due("trip " + n + " of " + k, trips[k][n], () -> x.trip(loop, which));
                promise = 11;
                due("whose " + n + " of " + k, trips[k][n] == NONE ? NONE : k - n, () -> x.whose(loop, which));
            }
        }
        x.image();
        x.lose(3, true);
        x.mode(3, 1);
        x.ticks(1);
        promise = 36;
        due("another trip", 0, () -> x.trip(3, 0));
        x.back();
        due("those of THE IMAGE", 1, () -> x.trip(3, 0));
        due("those of THE IMAGE", 1, () -> x.trip(3, 1));
        due("those of THE IMAGE", 0, () -> x.trip(3, 2));
        x.ticks(1);
        promise = 10;
        due("they stay in later TICKS", 0, () -> x.trip(3, 2));
        x.mode(3, 0);
        due("MANUAL already: they stay", 0, () -> x.trip(3, 2));
        x.mode(3, 1);
        due("a MODE told: none", NONE, () -> x.trip(3, 0));
        due("none of the rest either", NONE, () -> x.trip(3, 1));
        due("the others' stay", 1, () -> x.trip(2, 0));
        promise = 32;
        due("with TRIPS", 6, () -> x.which(7));
    }

    private static void setsUpAndDown() {
        promise = 13;
        StillLoops x = told(STILL + ";gains 0 from 10 kp 1 ki 1 kd 1;law 0 hyst 3");
        int[][] row = {{9, 0}, {10, 1}, {9, 1}, {7, 1}, {6, 0}, {7, 0}, {9, 0}, {10, 1}, {-999, 0}, {999, 1}};
        for (int[] one : row) {
            x.load(0, one[0]);
            x.ticks(2);
            due("SET by PV " + one[0], one[1], () -> x.loop(0, 13));
        }
        due("each change is in the LOG", 5, () -> x.count(4));
        StillLoops y = told(STILL + ";gains 0 from 10 kp 1 ki 1 kd 1");
        y.load(0, 10);
        y.ticks(2);
        y.load(0, 9);
        y.ticks(2);
        due("HYST 0: back at once", 0, () -> y.loop(0, 13));
        StillLoops z = told(STILL + ";gains 0 from -9998 kp 1 ki 1 kd 1");
        z.ticks(1);
        due("FROM far below: at once", 1, () -> z.loop(0, 13));
        due("PV of (b), as it is now", 0, () -> z.log(0, 0));
    }

    private static void setsOverTwo() {
        promise = 13;
        StillLoops x = told(STILL + ";gains 0 from 10 kp 1 ki 1 kd 1;gains 0 from 20 kp 1 ki 1 kd 1");
        int[][] row = {{20, 2}, {19, 1}, {20, 2}, {9, 0}, {19, 1}, {20, 2}, {10, 1}, {9, 0}};
        for (int[] one : row) {
            x.load(0, one[0]);
            x.ticks(2);
            due("SET by PV " + one[0], one[1], () -> x.loop(0, 13));
        }
        tell(x, "law 0 hyst 99");
        int[][] wide = {{20, 2}, {9, 2}, {-79, 2}, {-80, 0}, {10, 1}, {-89, 1}, {-90, 0}};
        for (int[] one : wide) {
            x.load(0, one[0]);
            x.ticks(2);
            due("SET by PV " + one[0] + " with HYST", one[1], () -> x.loop(0, 13));
        }
    }

    private static void filters() {
        promise = 13;
        long[][] up = {{0, 256, 0}, {1, 128, 64}, {7, 2, 1}, {8, 1, 0}};
        for (long[] one : up) {
            StillLoops x = told(STILL + ";law 0 c 256 filter " + one[0]);
            x.set(0, 1);
            x.ticks(1);
            due("F by FILTER " + one[0], one[1], () -> x.inner(0, 3));
            due("R", 256, () -> x.inner(0, 4));
            x.ticks(1);
            due("F later", one[2], () -> x.inner(0, 3));
        }
        StillLoops x = told(STILL + ";law 0 c 256 filter 8");
        x.set(0, -1);
        x.ticks(1);
        due("below 0", -1, () -> x.inner(0, 3));
        x.ticks(5);
        due("1 by 256 is 0: it stays", -1, () -> x.inner(0, 3));
        StillLoops y = told(STILL + ";law 0 filter 0");
        y.set(0, 9999);
        y.load(0, 2);
        y.ticks(2);
        due("C 0: by PV alone", -512, () -> y.inner(0, 3));
        due("R", -512, () -> y.inner(0, 4));
    }

    private static void limits() {
        promise = 13;
        StillLoops x = told("loop lag gain 0 tau 0 low -7 high 10;gains 0 kp 256 ki 0 kd 0;law 0 back 0");
        x.mode(0, 1);
        int[][] row = {{10, 10, 0}, {11, 10, 1}, {9999, 10, 1}, {9, 9, 0}, {-7, -7, 0}, {-8, -7, -1}, {-9999, -7, -1}, {0, 0, 0}};
        for (int[] one : row) {
            x.set(0, one[0]);
            x.ticks(1);
            due("OUT by V " + one[0], one[1], () -> x.loop(0, 11));
            due("AT by V " + one[0], one[2], () -> x.loop(0, 15));
            due("STUCK by V " + one[0], one[2] == 0 ? 0 : 1, () -> Math.min(1, x.loop(0, 16)));
        }
        StillLoops y = told("loop lag gain 0 tau 0 low -7 high 10;gains 0 kp 1 ki 0 kd 0");
        y.mode(0, 1);
        y.set(0, -1);
        y.ticks(1);
        due("S - 256 by 65536: rounded down", -1, () -> y.loop(0, 11));
        y.set(0, 255);
        y.ticks(1);
        due("S 65280 by 65536: rounded down", 0, () -> y.loop(0, 11));
        y.set(0, 256);
        y.ticks(1);
        due("S 65536", 1, () -> y.loop(0, 11));
        StillLoops z = told("loop lag gain 0 tau 0 low -7 high 10;gains 0 kp 256 ki 3 kd 0;law 0 back 256");
        z.mode(0, 1);
        z.set(0, 12);
        z.ticks(1);
        due("BACK 256 gives all back", 3 * 12 - 65536 * 2, () -> z.inner(0, 2));
    }

    /** LOOP 0 in AUTO leads LOOP 1 in CASCADE, whose AT is told by its SP: above 5, below - 5, or neither. */
    private static StillLoops led() {
        StillLoops x = told("loop lag gain 0 tau 0 low -50 high 50;loop lag gain 0 tau 0 low -5 high 5 on 0",
                "gains 0 kp 0 ki 1 kd 0;law 0 back 0;gains 1 kp 256 ki 0 kd 0;law 1 back 0");
        x.mode(1, 1);
        x.mode(1, 2);
        return x;
    }

    private static void held() {
        promise = 13;
        int[][] row = {{0, 1, 1}, {0, -1, -1}, {6, 1, 0}, {6, -1, -1}, {-6, 1, 1}, {-6, -1, 0}, {5, 1, 1}, {-5, -1, -1},
            {6, 0, 0}, {-6, 0, 0}, {6, 9999, 0}, {6, -9999, -9999}, {-6, 9999, 9999}, {-6, -9999, 0}};
        for (int[] one : row) {
            StillLoops x = led();
            x.out(0, one[0]);
            x.ticks(1);
            due("AT of the inner one", one[0] == 6 ? 1 : one[0] == -6 ? -1 : 0, () -> x.loop(1, 15));
            x.mode(0, 1);
            x.set(0, one[1]);
            long was = x.inner(0, 2);
            x.ticks(1);
            due("E with the inner one at " + one[0] + " and SP " + one[1], was + one[2], () -> x.inner(0, 2));
            x.mode(1, 1);
            due("AT 0 by a MODE told", 0, () -> x.loop(1, 15));
        }
        // A LOOP ON it that is at its limit in AUTO holds nothing while another one is in CASCADE.
        StillLoops y = told("loop lag gain 0 tau 0 low -50 high 50;loop lag gain 0 tau 0 low -5 high 5 on 0;"
                + "loop lag gain 0 tau 0 low -5 high 5 on 0;gains 0 kp 0 ki 16 kd 0;law 0 back 0;gains 1 kp 256 ki 0 kd 0",
                "law 1 back 0");
        y.mode(0, 1);
        y.mode(1, 1);
        y.set(1, 6);
        y.mode(2, 2);
        y.ticks(1);
        due("AT 1 in AUTO", 1, () -> y.loop(1, 15));
        y.set(0, 1);
        long was = y.inner(0, 2);
        y.ticks(1);
        due("not held", was + 16, () -> y.inner(0, 2));
    }

    /** I goes on by what P is less: 5 times 10 to the 10 by each round of four calls, until it is at its bound. */
    private static StillLoops farI(int sign, int mode) {
        StillLoops x = told(STILL + ";gains 0 kp 0 ki 9999 kd 0;law 0 back 0");
        x.mode(0, mode);
        for (int n = 0; n < 20; n++) {
            x.set(0, -9999 * sign);
            x.gains(0, 9999, 9999, 0);
            x.set(0, 9999 * sign);
            x.gains(0, 0, 9999, 0);
        }
        return x;
    }

    private static void boundsOfI() {
        promise = 17;
        for (int sign = -1; sign <= 1; sign += 2) {
            int s = sign;
            StillLoops x = told(STILL + ";gains 0 kp 0 ki 0 kd 0");
            long due = 0;
            for (int n = 0; n < 20; n++) {
                x.set(0, -9999 * s);
                x.gains(0, 9999, 0, 0);
                due = Math.min(I_MOST, due + 9999L * 256 * 9999);
                long want = due * s;
                due("I as by a change of SETS", want, () -> x.inner(0, 2));
                x.set(0, 9999 * s);
                x.gains(0, 0, 0, 0);
                due = Math.min(I_MOST, due + 9999L * 256 * 9999);
                long more = due * s;
                due("I as by a change of SETS", more, () -> x.inner(0, 2));
            }
            due("10 to the 12 at most", I_MOST * s, () -> x.inner(0, 2));
            x.gains(0, 9999, 0, 0);
            due("less from there on", (I_MOST - 9999L * 256 * 9999) * s, () -> x.inner(0, 2));
            x.out(0, 3);
            due("BALANCED again", 65536 * 3 - 9999L * 256 * 9999 * s, () -> x.inner(0, 2));
        }
    }

    private static void boundsOfIInTicks() {
        promise = 13;
        for (int sign = -1; sign <= 1; sign += 2) {
            int s = sign;
            StillLoops x = farI(sign, 1);
            due("at its bound", I_MOST * s, () -> x.inner(0, 2));
            promise = 29;
            due("the greatest S", I_MOST, () -> x.peak(0, 1));
            promise = 13;
            x.ticks(1);
            due("no further by E", I_MOST * s, () -> x.inner(0, 2));
            due("at the limit", s, () -> x.loop(0, 15));
            x.set(0, -9999 * s);
            x.ticks(1);
            due("less by E", (I_MOST - 9999L * 9999) * s, () -> x.inner(0, 2));
            StillLoops y = farI(sign, 1);
            tell(y, "gains 0 from 1 kp 0 ki 0 kd 0;gains 0 kp 9999 ki 0 kd 0");
            y.load(0, 1);
            y.set(0, 9999 * s);
            y.ticks(2);
            due("no further by a change of SETS", I_MOST * s, () -> y.inner(0, 2));
            due("the SET", 1, () -> y.loop(0, 13));
            StillLoops z = farI(sign, 0);
            z.ticks(1);
            due("BALANCED in MANUAL", 0, () -> z.inner(0, 2));
            StillLoops a = farI(sign, 0);
            a.mode(0, 1);
            due("BALANCED by a MODE told", 0, () -> a.inner(0, 2));
        }
    }

    private static void sticks() {
        promise = 13;
        for (int stick : new int[] {0, 1, 99}) {
            StillLoops x = told(LAG + ";law 0 stick " + stick);
            x.out(0, stick);
            x.ticks(1);
            due("as much as STICK " + stick, 0, () -> x.loop(0, 12));
            x.out(0, stick + 1);
            x.ticks(1);
            due("more than STICK " + stick, stick + 1, () -> x.loop(0, 12));
            x.out(0, 1);
            x.ticks(1);
            due("as much the other way", stick == 0 ? 1 : stick + 1, () -> x.loop(0, 12));
            x.out(0, 0);
            x.ticks(1);
            due("more the other way", 0, () -> x.loop(0, 12));
            x.out(0, -stick);
            x.ticks(1);
            due("as much below 0", 0, () -> x.loop(0, 12));
            x.out(0, -stick - 1);
            x.ticks(1);
            due("more below 0", -stick - 1, () -> x.loop(0, 12));
            x.out(0, 0);
            due("OUT told leaves POS", -stick - 1, () -> x.loop(0, 12));
        }
    }

    private static void plants() {
        promise = 13;
        String far = " gain 999 tau 0 low -9999 high 9999";
        for (int sign = -1; sign <= 1; sign += 2) {
            int s = sign;
            StillLoops x = told("loop lag" + far + ";loop level" + far + ";loop slow" + far);
            for (int k = 0; k < 3; k++) {
                int loop = k;
                x.out(k, 9999 * sign);
                x.load(k, 999 * sign);
                x.ticks(2);
                due("Y at its bound", (long) Y_MOST * s, () -> x.inner(loop, 0));
                due("PV", 9999 * s, () -> x.loop(loop, 10));
            }
            due("Z has none", (999L * 9999 + 256 * 999) * s, () -> x.inner(2, 1));
            due("a lag has no Z", 0, () -> x.inner(0, 1));
        }
        StillLoops y = told("loop level gain 256 tau 0 low -9999 high 9999");
        y.out(0, 9999);
        y.ticks(1);
        due("just at it", Y_MOST, () -> y.inner(0, 0));
        y.out(0, -1);
        y.ticks(1);
        due("and off it again", Y_MOST - 256, () -> y.inner(0, 0));
        StillLoops z = told("loop lag gain 256 tau 8 low -1 high 1;loop level gain 256 tau 8 low -1 high 1;"
                + "loop slow gain 256 tau 8 low -1 high 1");
        z.out(0, 1);
        z.out(1, 1);
        z.out(2, 1);
        z.ticks(2);
        due("lag: 256 by 256, then 255 by 256", 1, () -> z.inner(0, 0));
        due("level: 256 by 256 twice", 2, () -> z.inner(1, 0));
        due("slow: Z", 1, () -> z.inner(2, 1));
        due("slow: Y, 1 by 256", 0, () -> z.inner(2, 0));
        StillLoops w = told("loop lag gain 256 tau 8 low -1 high 1;loop level gain 255 tau 8 low -1 high 1;"
                + "loop slow gain 256 tau 8 low -1 high 1");
        w.out(0, -1);
        w.out(1, -1);
        w.out(2, -1);
        w.ticks(2);
        due("lag: - 256 by 256, then - 255 by 256", -2, () -> w.inner(0, 0));
        due("level: - 255 by 256 twice", -2, () -> w.inner(1, 0));
        due("slow: Z", -2, () -> w.inner(2, 1));
        due("slow: Y, - 1 by 256 and - 1 by 256", -2, () -> w.inner(2, 0));
        due("PV by 256, rounded down", -1, () -> w.loop(0, 10));
    }

    private static void lates() {
        promise = 13;
        for (int late : new int[] {0, 1, 7, 8}) {
            StillLoops x = told("loop lag gain 256 tau 0 low -9 high 9 late " + late);
            x.out(0, 5);
            x.ticks(1);
            x.out(0, 0);
            if (late > 0) {
                due("not yet", 0, () -> x.loop(0, 10));
                ticks(x, late - 1);
                due("still not", 0, () -> x.loop(0, 10));
                x.ticks(1);
            }
            due("LATE " + late, 5, () -> x.loop(0, 10));
            x.ticks(1);
            due("and gone", 0, () -> x.loop(0, 10));
        }
    }

    private static void feedsOfTheLeast() {
        promise = 13;
        StillLoops x = told("loop lag gain 256 tau 0 low -9 high 9;" + STILL + " on 0;" + STILL + " on 0;" + STILL + " on 2");
        x.out(0, 4);
        x.load(1, 3);
        x.load(2, 8);
        x.ticks(1);
        due("PV that it had in (b)", 0, () -> x.loop(0, 10));
        x.ticks(1);
        due("PV of the least of these, not FLOW of POS", 3, () -> x.loop(0, 10));
        x.load(1, -6);
        x.ticks(1);
        due("a TICK later", 3, () -> x.loop(0, 10));
        x.ticks(1);
        due("then", -6, () -> x.loop(0, 10));
    }

    private static void following() {
        promise = 13;
        StillLoops x = told("loop lag gain 0 tau 0 low -7 high 9;" + STILL + " on 0;" + STILL + " on 0;" + STILL + " on 1");
        x.set(1, 9);
        x.set(2, 1);
        due("in MANUAL it does not follow", 0, () -> x.which(8));
        x.mode(0, 1);
        due("FOLLOWING", 1, () -> x.which(8));
        x.ticks(1);
        due("SP of the least of these", 9, () -> x.loop(0, 11));
        x.set(1, 10);
        x.ticks(1);
        due("HIGH at most", 9, () -> x.loop(0, 11));
        due("AT is 0", 0, () -> x.loop(0, 15));
        x.set(1, -8);
        x.ticks(1);
        due("LOW at least", -7, () -> x.loop(0, 11));
        due("AT is 0", 0, () -> x.loop(0, 15));
        due("STUCK is 0", 0, () -> x.loop(0, 16));
        x.mode(2, 2);
        due("none when one of these is in CASCADE", 0, () -> x.which(8));
        x.mode(1, 2);
        due("CASCADE that none is in CASCADE on follows", 2, () -> x.which(8));
        x.set(3, 6);
        x.ticks(1);
        due("in CASCADE", 6, () -> x.loop(1, 11));
        x.mode(3, 2);
        due("none", 0, () -> x.which(8));
        x.mode(3, 0);
        x.mode(1, 0);
        due("not in MANUAL", 0, () -> x.which(8));
        x.relay(1, 1, 0);
        due("not in RELAY", 0, () -> x.which(8));
        x.mode(2, 1);
        due("LOOPS in RELAY and AUTO ON it", 1, () -> x.which(8));
        due("one in AUTO that none is ON does not follow", 5, () -> x.which(1));
        // A LOOP at its limit begins to follow without a MODE told of its own: AT and STUCK are 0 by that.
        for (int sign = -1; sign <= 1; sign += 2) {
            StillLoops y = led();
            y.out(0, 50 * sign);
            y.mode(0, 1);
            tell(y, "gains 0 kp 256 ki 0 kd 0");
            y.set(0, sign);
            y.ticks(5);
            int at = sign;
            due("AT its limit", at, () -> y.loop(0, 15));
            due("STUCK", 5, () -> y.loop(0, 16));
            y.mode(1, 1);
            due("AT stays until a TICK", at, () -> y.loop(0, 15));
            y.ticks(1);
            due("FOLLOWING: AT 0", 0, () -> y.loop(0, 15));
            due("FOLLOWING: STUCK 0", 0, () -> y.loop(0, 16));
        }
    }

    private static void flows() {
        promise = 12;
        StillLoops x = told("loop lag gain 256 tau 0 low -7 high 0;curve 0 999 0");
        long[] down = {999, 856, 713, 570, 428, 285, 142, 0};
        for (int k = 0; k < down.length; k++) {
            int p = k - 7;
            due("down, at " + p, down[k], () -> x.flow(0, p));
        }
        tell(x, "curve 0 0 999");
        long[] up = {0, 142, 285, 428, 570, 713, 856, 999};
        for (int k = 0; k < up.length; k++) {
            int p = k - 7;
            due("up, at " + p, up[k], () -> x.flow(0, p));
        }
        tell(x, "curve 0 1 2 3 4 5 6 7 8");
        for (int k = 0; k < 8; k++) {
            int p = k - 7;
            due("eight numbers, at " + p, k + 1, () -> x.flow(0, p));
        }
        StillLoops y = told("loop lag gain 256 tau 0 low 9998 high 9999;curve 0 5 9 7;loop lag gain 1 tau 0 low -9999 high 9999",
                "curve 1 0 999 0 999 0 999 0 999");
        due("LOW", 5, () -> y.flow(0, 9998));
        due("HIGH: the last one", 7, () -> y.flow(0, 9999));
        due("LOW of the widest", 0, () -> y.flow(1, -9999));
        due("HIGH of the widest", 999, () -> y.flow(1, 9999));
        due("in its middle: 69993 by 19998 is 3, 9999 are left", 999 - 500, () -> y.flow(1, 0));
        due("t 7: 6993 by 19998", 0, () -> y.flow(1, -9998));
        due("t 21: 20979 by 19998", 1, () -> y.flow(1, -9996));
        y.out(0, 9999);
        y.ticks(1);
        promise = 13;
        due("FEED is FLOW of POS", 7, () -> y.loop(0, 10));
    }

    private static void modesTold() {
        promise = 14;
        StillLoops x = told(STILL + ";" + STILL + " on 0");
        x.out(0, 5);
        x.out(1, 2);
        due("to MANUAL, so already", 0, () -> x.mode(1, 0));
        due("no row", 0, () -> x.count(4));
        due("to CASCADE", 0, () -> x.mode(1, 2));
        due("SP is OUT", 5, () -> x.loop(1, 9));
        due("BALANCED", 65536 * 2 - 65536 * 5, () -> x.inner(1, 2));
        due("so already", 2, () -> x.mode(1, 2));
        due("one row", 1, () -> x.count(4));
        due("to MANUAL", 2, () -> x.mode(1, 0));
        due("SP stays", 5, () -> x.loop(1, 9));
        due("I stays", 65536 * 2 - 65536 * 5, () -> x.inner(1, 2));
        x.set(1, 1);
        due("to AUTO", 0, () -> x.mode(1, 1));
        due("BALANCED", 65536 * 2 - 65536, () -> x.inner(1, 2));
        due("SP stays", 1, () -> x.loop(1, 9));
        x.mode(1, 0);
        x.out(1, -9);
        x.relay(1, 1, 0);
        x.ticks(3);
        due("in the test", -8, () -> x.loop(1, 11));
        due("RELAY to AUTO", 3, () -> x.mode(1, 1));
        due("OUT stays where the test had it", -8, () -> x.loop(1, 11));
        due("BALANCED by that", 65536 * -8 - 65536, () -> x.inner(1, 2));
        due("no KU", NONE, () -> x.loop(1, 18));
        due("no TU", NONE, () -> x.loop(1, 19));
        due("the row of the MODE alone", 1, () -> x.log(0, 2));
        due("four rows and that", 5, () -> x.count(4));
    }

    private static void relaySides() {
        promise = 20;
        int[][] side = {{0, 0, 1}, {1, 0, 1}, {-1, 0, -1}, {5, 5, 1}, {5, 6, -1}, {-9999, 0, -1}, {9999, 0, 1}};
        for (int[] one : side) {
            StillLoops x = told(STILL);
            x.load(0, one[1]);
            x.ticks(1);
            x.set(0, one[0]);
            due("SIDE by SP " + one[0] + " and PV " + one[1], one[2], () -> x.relay(0, 1, 99));
        }
        for (int h : new int[] {0, 1, 99}) {
            StillLoops x = told(STILL);
            x.relay(0, 10, h);
            x.set(0, -h);
            x.ticks(1);
            due("SP less PV is - H " + h, 10, () -> x.loop(0, 11));
            x.set(0, -h - 1);
            x.ticks(1);
            due("below - H " + h, -10, () -> x.loop(0, 11));
            x.set(0, h);
            x.ticks(1);
            due("SP less PV is H " + h, -10, () -> x.loop(0, 11));
            x.set(0, h + 1);
            x.ticks(1);
            due("above H " + h, 10, () -> x.loop(0, 11));
        }
    }

    private static void relayAges() {
        promise = 20;
        StillLoops x = told(STILL);
        x.out(0, 3);
        x.relay(0, 2, 0);
        ticks(x, 239);
        due("239: it goes on", 3, () -> x.loop(0, 8));
        due("MIDDLE and D", 5, () -> x.loop(0, 11));
        due("no row", 0, () -> x.count(4));
        due("it ends, which is no trip", 0, () -> x.ticks(1));
        due("240", 0, () -> x.loop(0, 8));
        due("MIDDLE", 3, () -> x.loop(0, 11));
        due("BALANCED", 65536 * 3, () -> x.inner(0, 2));
        due("its row", 3, () -> x.log(0, 2));
        due("NONE", NONE, () -> x.log(0, 3));
        due("its TICK", 239, () -> x.log(0, 0));
        // The 4th UP in the very TICK in which AGE is 240 ends it with KU.
        StillLoops y = told(STILL);
        y.relay(0, 2, 0);
        ticks(y, 232);
        swing(y, 4);
        due("AGE 240", 240, () -> y.count(2));
        due("ended", 0, () -> y.loop(0, 8));
        due("with KU", 9999, () -> y.loop(0, 18));
        due("and TU", 2, () -> y.loop(0, 19));
        StillLoops z = told(STILL);
        z.relay(0, 2, 0);
        ticks(z, 233);
        swing(z, 3);
        z.ticks(1);
        due("AGE 240 with three UPS", NONE, () -> z.loop(0, 18));
        due("ended", 0, () -> z.loop(0, 8));
        due("a second test begins anew", 1, () -> z.relay(0, 2, 0));
        ticks(z, 239);
        due("239 of its own", 3, () -> z.loop(0, 8));
    }

    /** So many times down and up, a TICK each, by an SP told by hand around a PV of 0. */
    private static void swing(StillLoops x, int times) {
        for (int n = 0; n < times; n++) {
            x.set(0, -5);
            x.ticks(1);
            x.set(0, 5);
            x.ticks(1);
        }
    }

    private static void relayUps() {
        promise = 20;
        StillLoops x = told(STILL);
        x.relay(0, 2, 0);
        swing(x, 3);
        due("three UPS: it goes on", 3, () -> x.loop(0, 8));
        due("up", 2, () -> x.loop(0, 11));
        x.set(0, -5);
        x.ticks(7);
        x.set(0, 5);
        x.ticks(1);
        due("the 4th ends it", 0, () -> x.loop(0, 8));
        due("TU is SINCE the third", 8, () -> x.loop(0, 19));
        due("without SWING", 9999, () -> x.loop(0, 18));
        due("OUT is MIDDLE", 0, () -> x.loop(0, 11));
        due("its row", 9999, () -> x.log(0, 3));
        // One that begins below has its first UP without having been down.
        StillLoops y = told(STILL);
        y.set(0, -1);
        due("SIDE", -1, () -> y.relay(0, 2, 0));
        y.set(0, 5);
        y.ticks(1);
        swing(y, 2);
        due("three UPS", 3, () -> y.loop(0, 8));
        swing(y, 1);
        due("four", 0, () -> y.loop(0, 8));
        // UPS of a test that was broken off do not count for the next one.
        StillLoops z = told(STILL);
        z.relay(0, 2, 0);
        swing(z, 3);
        z.mode(0, 0);
        z.relay(0, 2, 0);
        swing(z, 3);
        due("three UPS of its own", 3, () -> z.loop(0, 8));
        swing(z, 1);
        due("the 4th", 0, () -> z.loop(0, 8));
    }

    private static void relayKu() {
        promise = 20;
        // Y is OUT itself (GAIN 1), so that SWING is twice D.
        StillLoops x = told("loop lag gain 1 tau 0 low -10 high 10");
        x.relay(0, 5, 0);
        swing(x, 4);
        due("59244544 times 5 by 3550 is more than 9999", 9999, () -> x.loop(0, 18));
        StillLoops y = told("loop lag gain 17 tau 0 low -10 high 10");
        y.relay(0, 1, 0);
        swing(y, 4);
        due("59244544 by (355 times 34)", 4908, () -> y.loop(0, 18));
        StillLoops w = told("loop lag gain 20 tau 0 low -300 high 300");
        w.relay(0, 245, 0);
        for (int n = 0; n < 4; n++) {
            w.load(0, -1);
            w.set(0, -99);
            w.ticks(1);
            w.load(0, 1);
            w.set(0, 99);
            w.ticks(1);
        }
        due("59244544 times 245 by (355 times 10312) is 3964.99997", 3964, () -> w.loop(0, 18));
        StillLoops z = told("loop lag gain 999 tau 0 low -10 high 10");
        z.relay(0, 1, 0);
        for (int n = 0; n < 4; n++) {
            z.load(0, 999);
            z.set(0, -9000);
            z.ticks(2);
            z.load(0, -999);
            z.set(0, 9000);
            z.ticks(2);
        }
        due("ended", 0, () -> z.loop(0, 8));
        due("SWING 511488 + 999 + 999: rounded down to 0", 0, () -> z.loop(0, 18));
        promise = 21;
        due("KU 0 is one", 0, () -> z.tune(0, 0));
        due("KI 0", 0, () -> z.gain(0, 0, 2));
    }

    private static StillLoops inTest() {
        StillLoops x = told("loop level gain 256 tau 0 low -10 high 10 late 2");
        x.relay(0, 5, 2);
        return x;
    }

    /** What a test has is in THE IMAGE, however far it is, and whatever another test had in between. */
    private static void relayInImages() {
        promise = 36;
        StillLoops whole = inTest();
        int age = 0;
        while (whole.loop(0, 8) == 3 && age < 240) {
            whole.ticks(1);
            age++;
        }
        int last = age;
        due("with KU", 1, () -> bit(whole.loop(0, 18) > 0 && whole.loop(0, 18) < 9999));
        due("in time", 1, () -> bit(last < 100));
        for (int k = 1; k < age; k++) {
            StillLoops x = inTest();
            ticks(x, k);
            x.image();
            x.mode(0, 0);
            x.out(0, k % 2 == 0 ? 9 : -9);
            x.ticks(30);
            x.set(0, k % 2 == 0 ? -9999 : 9999);
            x.relay(0, 1, 9);
            x.ticks(4);
            x.back();
            ticks(x, age - k - 1);
            due("it goes on, from " + k, 3, () -> x.loop(0, 8));
            x.ticks(1);
            due("KU from " + k, whole.loop(0, 18), () -> x.loop(0, 18));
            due("TU from " + k, whole.loop(0, 19), () -> x.loop(0, 19));
            due("OUT from " + k, 0, () -> x.loop(0, 11));
            due("Y from " + k, whole.inner(0, 0), () -> x.inner(0, 0));
        }
    }

    private static StillLoops withTu(int tu) {
        StillLoops x = told(STILL);
        x.relay(0, 2, 0);
        swing(x, 3);
        x.set(0, -5);
        ticks(x, tu - 1);
        x.set(0, 5);
        x.ticks(1);
        return x;
    }

    private static void tuned() {
        promise = 21;
        long[][] want = {{2, 0, 5999, 9999, 1499}, {13, 0, 5999, 9999, 9748}, {14, 0, 5999, 9999, 9999},
            {200, 0, 5999, 9999, 9999}, {2, 1, 4499, 9999, 0}, {139, 1, 4499, 9943, 0}, {138, 1, 4499, 9999, 0},
            {2, 2, 3333, 9999, 2222}, {8, 2, 3333, 9999, 8888}, {9, 2, 3333, 9999, 9999}, {170, 2, 3333, 9999, 9999},
            {171, 2, 3333, 9979, 9999}};
        for (long[] one : want) {
            StillLoops x = withTu((int) one[0]);
            due("TU", one[0], () -> x.loop(0, 19));
            due("KP by rule " + one[1], one[2], () -> x.tune(0, (int) one[1]));
            for (int what = 1; what <= 3; what++) {
                int w = what;
                due("gain " + what + " by rule " + one[1] + ", TU " + one[0], one[w + 1], () -> x.gain(0, 0, w));
            }
        }
        StillLoops x = withTu(20);
        tell(x, "gains 0 from 1 kp 1 ki 1 kd 1");
        x.load(0, 1);
        x.ticks(2);
        x.tune(0, 1);
        due("the SET in use", 4499, () -> x.gain(0, 1, 1));
        due("not the other one", 256, () -> x.gain(0, 0, 1));
        x.mode(0, 1);
        due("KU stays, in AUTO too", 4499, () -> x.tune(0, 1));
        x.mode(0, 0);
        x.relay(0, 1, 0);
        due("gone by a new test", STATE, () -> x.tune(0, 1));
    }

    private static void row(StillLoops x, int ago, long tick, long loop, long kind, long number) {
        long[] want = {tick, loop, kind, number};
        for (int what = 0; what < 4; what++) {
            int w = what;
            due("log " + ago + " ago, what " + what, want[what], () -> x.log(ago, w));
        }
    }

    private static void logRows() {
        promise = 34;
        StillLoops x = told(STILL + ";" + STILL + " on 0;gains 1 from 3 kp 1 ki 1 kd 1;at 2 mode 1 cascade");
        x.load(1, 3);
        x.ticks(1);
        due("none yet", 0, () -> x.count(4));
        x.ticks(1);
        row(x, 0, 1, 1, 0, 1);
        x.ticks(1);
        row(x, 0, 2, 1, 1, 2);
        row(x, 1, 1, 1, 0, 1);
        x.mode(0, 1);
        row(x, 0, 3, 0, 1, 1);
        x.lose(0, true);
        x.load(1, 2);
        x.ticks(2);
        // In TICK 3 the one trips and then the other one; in TICK 4 PV is 2 and the SET goes back.
        row(x, 0, 4, 1, 0, 0);
        row(x, 1, 3, 1, 2, 1);
        row(x, 2, 3, 0, 2, 0);
        x.lose(0, false);
        x.relay(0, 1, 0);
        due("a test that begins is none", 6, () -> x.count(4));
        swing(x, 4);
        row(x, 0, 12, 0, 3, 9999);
        due("gains, loads, texts and images are none", 7, () -> {
            x.gains(0, 1, 1, 1);
            x.load(0, 1);
            x.lose(1, true);
            x.out(0, 1);
            tell(x, "gains 0 from 1 kp 1 ki 1 kd 1");
            x.image();
            return x.count(4);
        });
        x.ticks(2);
        row(x, 0, 14, 0, 0, 1);
        due("eight", 8, () -> x.count(4));
    }

    private static void logOfSixty() {
        promise = 34;
        StillLoops x = told(STILL);
        for (int n = 1; n <= 61; n++) {
            x.mode(0, n % 2);
            x.ticks(1);
            if (n == 59) {
                due("59 rows", 59, () -> x.count(4));
                row(x, 58, 0, 0, 1, 1);
                due("one more is none", NONE, () -> x.log(59, 0));
            } else if (n == 60) {
                due("60 rows", 60, () -> x.count(4));
                row(x, 59, 0, 0, 1, 1);
                due("one more is none", NONE, () -> x.log(60, 0));
            }
        }
        due("60 rows still", 60, () -> x.count(4));
        row(x, 0, 60, 0, 1, 1);
        row(x, 59, 1, 0, 1, 0);
        due("one more is none", NONE, () -> x.log(60, 3));
        x.image();
        x.mode(0, 0);
        row(x, 59, 2, 0, 1, 1);
        x.back();
        row(x, 59, 1, 0, 1, 0);
        due("nothing ahead comes into it", 60, () -> {
            x.lose(0, true);
            x.mode(0, 1);
            x.ahead(0, 60, true);
            x.bump(0, 0);
            x.round(true);
            return x.count(4);
        });
    }

    private static void logTicks() {
        promise = 34;
        StillLoops x = told(STILL);
        ticks(x, 10000);
        x.mode(0, 1);
        row(x, 0, 10000, 0, 1, 1);
        promise = 37;
        due("TICK", 10000, () -> x.count(2));
    }

    private static void bumps() {
        promise = 22;
        StillLoops x = told(STILL + ";" + STILL + " on 0;gains 1 kp 256 ki 6554 kd 0");
        x.out(0, 9);
        x.set(1, 7);
        due("what is so already", 0, () -> x.bump(1, 0));
        due("to AUTO: BALANCED, none", 0, () -> x.bump(1, 1));
        due("to CASCADE: none", 0, () -> x.bump(1, 2));
        due("the other one follows: 9 to 7", 2, () -> x.bump(0, 1));
        x.mode(1, 1);
        x.set(1, 8);
        due("AUTO goes on: P is one more", 1, () -> x.bump(1, 1));
        due("to MANUAL: none", 0, () -> x.bump(1, 0));
        due("to CASCADE: BALANCED anew", 0, () -> x.bump(1, 2));
        x.lose(1, true);
        due("it would trip first", 0, () -> x.bump(1, 1));
        StillLoops y = told(STILL);
        y.out(0, 1);
        y.relay(0, 5, 0);
        due("a test begins to move OUT", 0, () -> y.bump(0, 0));
        y.ticks(1);
        due("told AUTO from where it is", 0, () -> y.bump(0, 1));
    }

    private static void peaks() {
        promise = 29;
        StillLoops x = told(STILL + ";gains 0 kp 256 ki 0 kd 0;law 0 back 0");
        due("in MANUAL", 0, () -> x.peak(0, 60));
        x.mode(0, 1);
        due("at rest", 0, () -> x.peak(0, 60));
        x.set(0, 3);
        due("none of 0 TICKS", 0, () -> x.peak(0, 0));
        due("above 0", 3 * 65536, () -> x.peak(0, 1));
        x.set(0, -3);
        due("below 0, without its sign", 3 * 65536, () -> x.peak(0, 60));
        x.set(0, 9999);
        due("beyond HIGH", 9999 * 65536L, () -> x.peak(0, 60));
        x.lose(0, true);
        due("it trips first", 0, () -> x.peak(0, 60));
        x.lose(0, false);
        x.set(0, 0);
        x.load(0, 1);
        due("PV in (b): 0 at first", 0, () -> x.peak(0, 1));
        due("then 1", 65536, () -> x.peak(0, 2));
        x.mode(0, 0);
        x.relay(0, 1, 0);
        due("in RELAY", 0, () -> x.peak(0, 60));
        StillLoops y = told(RISING + ";gains 0 kp 256 ki 0 kd 0;law 0 back 0");
        y.mode(0, 1);
        y.load(0, 1);
        due("the 60th too", 59 * 65536, () -> y.peak(0, 60));
        due("the greatest, not the last", 59 * 65536, () -> {
            y.load(0, -1);
            return y.peak(0, 60);
        });
    }

    private static void hunts() {
        promise = 30;
        StillLoops x = told(RISING);
        x.load(0, 1);
        int[][] want = {{0, 60, 0}, {1, 0, 0}, {1, 1, 1}, {1, 60, 1}, {2, 1, 0}, {2, 2, 1}, {60, 59, 0}, {60, 60, 1}, {61, 60, 0}};
        for (int[] one : want) {
            x.set(0, one[0]);
            due("SP " + one[0] + ", N " + one[1], one[2], () -> x.hunts(0, one[1]));
        }
        x.load(0, -1);
        int[][] down = {{0, 0, 0}, {0, 1, 1}, {-1, 1, 0}, {-1, 2, 1}, {1, 60, 0}, {-59, 60, 1}, {-60, 60, 0}};
        for (int[] one : down) {
            x.set(0, one[0]);
            due("down, SP " + one[0] + ", N " + one[1], one[2], () -> x.hunts(0, one[1]));
        }
    }

    private static void worst() {
        promise = 31;
        StillLoops none = new StillLoops();
        due("none without LOOPS", NONE, () -> none.worst(0));
        due("none AHEAD 60", NONE, () -> none.worst(60));
        StillLoops x = told(STILL + ";" + RISING + ";" + STILL + ";" + STILL);
        due("all alike", 0, () -> x.worst(0));
        due("all alike AHEAD 60", 0, () -> x.worst(60));
        x.set(3, -1);
        due("the last", 3, () -> x.worst(0));
        x.set(2, 1);
        due("of several the least", 2, () -> x.worst(60));
        x.load(1, 1);
        due("1 AHEAD 1: the least of three", 1, () -> x.worst(1));
        due("AHEAD 0", 2, () -> x.worst(0));
        x.set(0, 60);
        due("60 against 60 AHEAD 60", 0, () -> x.worst(60));
        x.set(0, 59);
        due("59 against 60", 1, () -> x.worst(60));
    }

    private static void aheads() {
        promise = 28;
        StillLoops x = told(RISING + ";at 0 load 0 0;at 0 lost 0;at 30 mode 0 manual");
        x.load(0, 1);
        x.mode(0, 1);
        due("0", 0, () -> x.ahead(0, 0, false));
        due("1", 1, () -> x.ahead(0, 1, false));
        due("60, without EVENTS", 60, () -> x.ahead(0, 60, false));
        due("OUT 0", 0, () -> x.ahead(0, 0, true));
        due("OUT 60: as far down as LOW", -10, () -> x.ahead(0, 60, true));
        due("nothing stays: TICK", 0, () -> x.count(2));
        due("nothing stays: EVENTS", 3, () -> x.count(3));
        due("nothing stays: PV", 0, () -> x.loop(0, 10));
        due("as TICKS, where there is none", 60, () -> {
            StillLoops y = told(RISING);
            y.load(0, 1);
            y.mode(0, 1);
            y.ticks(60);
            return y.loop(0, 10) == x.ahead(0, 60, false) && y.loop(0, 11) == x.ahead(0, 60, true) ? 60 : 0;
        });
    }

    private static void rounds() {
        promise = 23;
        StillLoops x = told(STILL);
        due("all rest: M", 0, () -> x.round(false));
        due("all rest: N is 1 at least", 1, () -> x.round(true));
        x.load(0, 1);
        // PV by 1; then R and F by 2, and F (- 256 by 4, and so on, rounded down) comes to rest.
        due("N", 1, () -> x.round(true));
        due("M is above 0", 1, () -> bit(x.round(false) > 0));
        StillLoops y = told(STILL + ";at 0 load 0 1;at 0 mode 0 auto");
        due("without EVENTS: M", 0, () -> y.round(false));
        y.relay(0, 1, 0);
        due("a test has no ROUND before it is over", NONE, () -> y.round(false));
        StillLoops w = told(STILL);
        w.relay(0, 1, 0);
        w.ticks(48);
        // AGE 48: it ends in the 192nd TICK; by the 200th the last FEED of the test is gone.
        due("M and N 201", NONE, () -> w.round(false));
        w.ticks(1);
        due("M and N 200: M", 199, () -> w.round(false));
        due("M and N 200: N", 1, () -> w.round(true));
        w.ticks(1);
        due("M and N 199: M", 198, () -> w.round(false));
        promise = 24;
        due("SWEEP of a rest", 0, () -> w.sweep(0));
        promise = 23;
        StillLoops v = told(STILL);
        v.out(0, 5);
        v.ticks(12);
        due("at rest", 0, () -> v.round(false));
        tell(v, "curve 0 3 9");
        due("by a CURVE all nine FEEDS change", 9, () -> v.round(false));
        due("and rest", 1, () -> v.round(true));
        v.ticks(1);
        due("eight are left", 8, () -> v.round(false));
        v.ticks(7);
        due("one is left", 1, () -> v.round(false));
        v.ticks(1);
        due("none", 0, () -> v.round(false));
    }

    /** A level that is full AHEAD 195 or later, beside a LOOP that goes round by 2. */
    private static void roundsOfTwo() {
        String swings = "loop lag gain 256 tau 0 low -10 high 10;gains 0 kp 256 ki 0 kd 0;law 0 filter 0 back 0";
        long[][] want = {{2, 197, 2}, {3, 198, 2}, {4, NONE, NONE}};
        for (long[] one : want) {
            StillLoops x = told(swings + ";loop level gain 256 tau 0 low 0 high 999 late " + one[0] + ";law 1 filter 0");
            x.mode(0, 1);
            x.load(0, 3);
            x.out(1, 52);
            promise = 23;
            due("M", one[1], () -> x.round(false));
            due("N", one[2], () -> x.round(true));
            promise = 24;
            due("SWEEP of the one that swings", one[2] == NONE ? NONE : 3, () -> x.sweep(0));
            due("SWEEP of the one that is full", one[2] == NONE ? NONE : 0, () -> x.sweep(1));
            promise = 25;
            due("STARTS: greatest N", one[2] == NONE ? 0 : 2, () -> x.starts(0, 4));
            due("STARTS that have none", one[2] == NONE ? 9 : 0, () -> x.starts(0, 2));
            due("STARTS of the full one, from 4 below to 4 above", one[0] == 4 ? 9 : 0, () -> x.starts(1, 2));
        }
        StillLoops x = told(swings);
        x.mode(0, 1);
        x.load(0, 3);
        promise = 23;
        due("M: nine FEEDS", 9, () -> x.round(false));
        ticks(x, 8);
        due("one is left", 1, () -> x.round(false));
        x.ticks(1);
        due("in it", 0, () -> x.round(false));
        due("N", 2, () -> x.round(true));
    }

    /** PV is LOAD less what PV was LATE and 1 TICKS before: so many TICKS of 0 and as many of 3, for ever. */
    private static String swinging(int loop, int late) {
        return "loop lag gain 256 tau 0 low -10 high 10 late " + late + ";gains " + loop + " kp 256 ki 0 kd 0;law " + loop
                + " filter 0 back 0";
    }

    private static void roundsByLate() {
        for (int late = 0; late <= 8; late++) {
            StillLoops x = told(swinging(0, late));
            x.mode(0, 1);
            x.load(0, 3);
            promise = 23;
            // OUT is 0 up to TICK 1, as it is in the round for LATE TICKS ahead of that; nine FEEDS must be so.
            due("M by LATE " + late, 9 - late, () -> x.round(false));
            due("N by LATE " + late, 2 * late + 2, () -> x.round(true));
            promise = 24;
            due("SWEEP by LATE " + late, 3, () -> x.sweep(0));
            for (int n = 1; n <= 12; n++) {
                x.ticks(1);
                int m = Math.max(0, 9 - late - n);
                int l = late;
                promise = 23;
                due("M later, by LATE " + late, m, () -> x.round(false));
                due("N later, by LATE " + late, 2 * l + 2, () -> x.round(true));
                promise = 24;
                due("SWEEP later, by LATE " + late, 3, () -> x.sweep(0));
            }
        }
    }

    /** Rounds of 4, 10 and 18 together: 180. */
    private static StillLoops threeSwing(int first, int second, int third) {
        StillLoops x = told(swinging(0, first) + ";" + swinging(1, second) + ";" + swinging(2, third));
        for (int k = 0; k < 3; k++) {
            x.mode(k, 1);
            x.load(k, 3);
        }
        return x;
    }

    private static void longRounds() {
        promise = 23;
        StillLoops x = threeSwing(1, 4, 8);
        due("M: of LATE 1", 8, () -> x.round(false));
        due("N", 180, () -> x.round(true));
        StillLoops y = threeSwing(0, 7, 8);
        due("M: of LATE 0", 9, () -> y.round(false));
        due("N of 2, 16 and 18", 144, () -> y.round(true));
        StillLoops z = threeSwing(2, 4, 6);
        due("6, 10 and 14 are 210: none", NONE, () -> z.round(true));
        due("6, 10 and 14 are 210: none", NONE, () -> z.round(false));
        promise = 24;
        due("SWEEP of a long one", 3, () -> x.sweep(2));
        due("SWEEP of none", NONE, () -> z.sweep(2));
        promise = 25;
        due("nine of 180", 180, () -> x.starts(0, 4));
        due("nine", 9, () -> x.starts(0, 1));
        due("none at all", 9, () -> z.starts(0, 2));
        // A level that is full AHEAD 18 or 19, and still two TICKS later.
        long[][] want = {{570, 20, 180}, {540, NONE, NONE}};
        for (long[] one : want) {
            StillLoops w = threeSwing(1, 4, 8);
            tell(w, "loop level gain 256 tau 0 low 0 high 999;law 3 filter 0");
            w.out(3, (int) one[0]);
            promise = 23;
            due("M, filled by " + one[0], one[1], () -> w.round(false));
            due("N, filled by " + one[0], one[2], () -> w.round(true));
            promise = 24;
            due("SWEEP, filled by " + one[0], one[1] == NONE ? NONE : 3, () -> w.sweep(1));
            promise = 25;
            due("greatest N, filled by " + one[0], one[1] == NONE ? 0 : 180, () -> w.starts(1, 4));
        }
    }

    /**
     * OUT is 0 or 1 and PV 0 or so much, so that I goes up by SP or down by what is left, and is back where it was
     * behind as many TICKS as PV is much, where the two have no divisor. LOOP 1 waits beside it.
     */
    private static StillLoops dithering(int much, int sp) {
        StillLoops x = told("loop lag gain 256 tau 0 low 0 high 1;curve 0 0 " + much
                + ";gains 0 kp 0 ki 128 kd 0;law 0 filter 0 back 0;" + STILL);
        x.mode(0, 1);
        x.set(0, sp);
        ticks(x, 600);
        return x;
    }

    private static void roundsOfTwoHundred() {
        long[][] want = {{199, 99, 0, 199}, {200, 99, 0, 200}, {201, 100, NONE, NONE}, {202, 100, 0, 101}};
        for (long[] one : want) {
            StillLoops x = dithering((int) one[0], (int) one[1]);
            promise = 23;
            due("M by " + one[0], one[2], () -> x.round(false));
            due("N by " + one[0], one[3], () -> x.round(true));
            promise = 24;
            due("SWEEP by " + one[0], one[3] == NONE ? NONE : one[0], () -> x.sweep(0));
            // I of LOOP 1 needs one TICK now.
            x.set(1, 5);
            promise = 23;
            boolean any = one[3] != NONE && one[3] < 200;
            due("M by " + one[0] + " and 1 more", any ? 1 : NONE, () -> x.round(false));
            due("N by " + one[0] + " and 1 more", any ? one[3] : NONE, () -> x.round(true));
            promise = 24;
            due("SWEEP by " + one[0] + " and 1 more", any ? one[0] : NONE, () -> x.sweep(0));
        }
    }

    /** Y of 255 is a PV of 0 and rests; one more would swing. */
    private static void sweepFromNow() {
        promise = 24;
        StillLoops x = told("loop level gain 51 tau 0 low -10 high 10;gains 0 kp 2560 ki 0 kd 0;law 0 filter 0 back 0");
        x.out(0, 5);
        x.ticks(1);
        x.out(0, 0);
        x.ticks(10);
        x.mode(0, 1);
        due("Y", 255, () -> x.inner(0, 0));
        due("rests", 0, () -> x.sweep(0));
        promise = 23;
        due("rests", 1, () -> x.round(true));
        due("now", 0, () -> x.round(false));
    }

    private static void startsByLate() {
        promise = 25;
        // s, 3 - s: those of s and of 3 - s are one. And s, 3, 3 - s, 0: those of 0 and of 3 alone.
        long[][] want = {{0, 0, 9, 0, 6, 2}, {1, 0, 9, 0, 8, 4}, {8, 0, 9, 0, 8, 18}};
        for (long[] one : want) {
            StillLoops x = told(swinging(0, (int) one[0]));
            x.mode(0, 1);
            x.load(0, 3);
            for (int time = 0; time < 2; time++) {
                for (int what = 0; what <= 4; what++) {
                    int w = what;
                    due("LATE " + one[0] + ", what " + what, one[what + 1], () -> x.starts(0, w));
                }
                x.ticks(36);
            }
        }
    }

    /** TRIPS count: the two LOOPS come to the same but for what they tripped by. */
    private static void startsByTrips() {
        promise = 25;
        StillLoops x = told("loop lag gain 0 tau 0 low 0 high 10;loop lag gain 0 tau 0 low 0 high 10 on 0;"
                + "gains 0 kp 256 ki 0 kd 0;gains 1 kp 256 ki 0 kd 0;law 0 filter 0 back 0;law 1 filter 0 back 0",
                swinging(2, 0));
        x.mode(2, 1);
        x.load(2, 3);
        x.out(0, 5);
        x.out(1, 10);
        x.mode(1, 2);
        x.out(0, 10);
        x.mode(0, 1);
        x.set(0, 1);
        // LOOP 1 is above HIGH from the first TICK on; LOOP 0 too, but with a PV of 1 or more from the second one on:
        // then LOOP 1 trips by itself, a TICK ahead, else with LOOP 0.
        due("all go round", 9, () -> x.starts(0, 1));
        due("by 2", 2, () -> x.starts(0, 4));
        due("with LOOP 0 or by itself", 2, () -> x.starts(0, 3));
        ticks(x, 60);
        due("LOOP 0", 2, () -> x.trip(0, 0));
        due("LOOP 1", 1, () -> x.trip(1, 0));
        due("LOOP 1", 2, () -> x.trip(1, 1));
        due("all is over: one", 1, () -> x.starts(0, 3));
    }

    /** KU and TU count: a test ends in the first TICK, or in the second one, by a SWING of 256 times the start. */
    private static void startsByTests() {
        promise = 25;
        long[][] want = {{5, 5}, {1, 9}};
        for (long[] one : want) {
            StillLoops x = told(STILL + ";law 0 filter 0", swinging(1, 0));
            x.mode(1, 1);
            x.load(1, 3);
            x.relay(0, 2, 0);
            swing(x, 3);
            x.set(0, -5);
            x.ticks(1);
            x.set(0, (int) one[0]);
            due("all go round", 9, () -> x.starts(0, 1));
            due("unlike by KU or TU", one[1], () -> x.starts(0, 3));
        }
    }

    private static void starts() {
        promise = 25;
        StillLoops x = told("loop lag gain 256 tau 0 low -10 high 10;gains 0 kp 256 ki 0 kd 0;law 0 filter 0 back 0");
        x.mode(0, 1);
        // Y by 256 times n goes on as - n, n, ..: 0 rests, n and - n are one round.
        long[] want = {1, 8, 0, 4, 2};
        for (int what = 0; what <= 4; what++) {
            int w = what;
            due("what " + what, want[what], () -> x.starts(0, w));
        }
        StillLoops y = told(STILL);
        long[] rest = {9, 0, 0, 0, 1};
        for (int what = 0; what <= 4; what++) {
            int w = what;
            due("all rest, what " + what, rest[what], () -> y.starts(0, w));
        }
        y.relay(0, 1, 0);
        long[] none = {0, 0, 9, 0, 0};
        for (int what = 0; what <= 4; what++) {
            int w = what;
            due("none, what " + what, none[what], () -> y.starts(0, w));
        }
        StillLoops z = told("loop level gain 0 tau 0 low -10 high 10;gains 0 from 1 kp 1 ki 1 kd 1");
        due("a level stays where it is put: nine rests", 9, () -> z.starts(0, 0));
        due("rests are no rounds", 0, () -> z.starts(0, 3));
        due("nothing stays", 0, () -> z.inner(0, 0));
        due("nothing stays in the LOG", 0, () -> z.count(4));
    }

    private static void startsAtTheBounds() {
        promise = 25;
        for (int sign = -1; sign <= 1; sign += 2) {
            StillLoops x = told("loop level gain 256 tau 0 low -9999 high 9999;gains 0 kp 256 ki 0 kd 0;law 0 filter 0 back 0");
            x.out(0, 9999 * sign);
            x.ticks(1);
            x.out(0, 0);
            ticks(x, 12);
            x.set(0, 9999 * sign);
            x.mode(0, 1);
            due("Y", (long) Y_MOST * sign, () -> x.inner(0, 0));
            due("at rest", 1, () -> x.round(true));
            // OUT is SP less PV: from 4 off its bound or from it, all come to the bound; none is beyond it.
            due("all rest", 9, () -> x.starts(0, 0));
            x.load(0, sign);
            x.set(0, 9998 * sign);
            due("as far as Y may be", 9, () -> x.starts(0, 0) + x.starts(0, 1));
            due("Y stays", (long) Y_MOST * sign, () -> x.inner(0, 0));
        }
    }

    private static void steps() {
        promise = 26;
        StillLoops x = told(STILL);
        x.mode(0, 1);
        long[][] want = {
            {9000, 999, 9999}, {9001, 999, 9999}, {9999, 1, 9999}, {-9000, -999, -9999}, {-9001, -999, -9999},
            {-9999, -1, -9999}, {0, 1, 1}, {0, -1, -1}};
        for (long[] one : want) {
            x.set(0, (int) one[0]);
            due("SP " + one[0] + " by " + one[1], 100 * Math.abs(one[2]), () -> x.step(0, (int) one[1], 3));
            due("SP is not more now", one[0], () -> x.loop(0, 9));
        }
        // PV stays 0; SP comes to n by a SIZE.
        long[][] band = {{0, 1, 1, NONE, 0}, {1, 1, NONE, NONE, 0}, {-1, 1, 1, 1, 0}, {-2, 1, 1, 1, 1}, {-3, 1, NONE, 1, 2},
            {-98, 100, 1, NONE, 0}, {-97, 99, NONE, NONE, 0}, {-980, 999, 1, NONE, 0}, {-979, 999, NONE, NONE, 0},
            {-1018, 999, 1, 1, 19}, {98, -100, 1, NONE, 0}, {97, -99, NONE, NONE, 0}, {1, -1, 1, 1, 0}, {3, -1, NONE, 1, 2}};
        for (long[] one : band) {
            x.set(0, (int) one[0]);
            String what = "SP " + one[0] + " by " + one[1];
            due(what + ": settled", one[2], () -> x.step(0, (int) one[1], 2));
            due(what + ": reached", one[3], () -> x.step(0, (int) one[1], 1));
            due(what + ": beyond", one[4], () -> x.step(0, (int) one[1], 0));
        }
    }

    private static void stepsToHundred() {
        promise = 26;
        StillLoops x = told(RISING);
        x.mode(0, 1);
        for (int sign = -1; sign <= 1; sign += 2) {
            x.load(0, sign);
            // PV is N AHEAD N. By 100: 2 off AHEAD 98, and 50 times 2 is no more than 100. By 99 it is beyond AHEAD 100.
            long[][] want = {{100, 0, 100, 98, 4950}, {101, 0, NONE, 99, 5050}, {102, 0, NONE, 100, 5150},
                {103, 0, NONE, NONE, 5250}, {99, 1, 99, 98, 4852}, {98, 2, 98, NONE, 4756}, {1, 99, 1, NONE, 4950}};
            for (long[] one : want) {
                for (int what = 0; what <= 3; what++) {
                    int w = what;
                    int size = (int) one[0] * sign;
                    due("by " + size + ", what " + what, one[what + 1], () -> x.step(0, size, w));
                }
            }
        }
        x.lose(0, true);
        x.load(0, 1);
        due("it trips, and goes on", 100, () -> x.step(0, 100, 1));
        due("nothing stays", 1, () -> x.loop(0, 8));
    }

    private static void twins() {
        promise = 27;
        StillLoops x = told("loop level gain 1 tau 8 low -9 high 9");
        x.out(0, 1);
        // There Y is 1 by 256 more each TICK, here 0: 60 times that by 256, times 1000, is 0.91.
        due("60", 0, () -> x.twin(60));
        x.out(0, 9);
        due("9 times that: 8.23", 8, () -> x.twin(60));
        x.out(0, -1);
        // Here - 1 each TICK, there - 1 by 256: 60 times 255 by 256 by 256 is 0.2334.
        due("without its sign", 233, () -> x.twin(60));
        due("1: 3.89", 3, () -> x.twin(1));
        StillLoops y = told("loop level gain 999 tau 0 low -9999 high 9999;loop level gain 1 tau 8 low -9 high 9");
        y.out(0, 9999);
        y.out(1, -1);
        due("of all LOOPS the greatest; Y at its bound in both", 233, () -> y.twin(60));
        y.out(0, -9999);
        due("the other bound", 233, () -> y.twin(60));
        StillLoops z = told("loop lag gain 256 tau 0 low -10 high 10;curve 0 0 9 0;gains 0 kp 1 ki 0 kd 0");
        z.mode(0, 1);
        z.set(0, 255);
        // V is 255 by 256 there: OUT 0.996 lets 9 less 9 times that by 10 through; here 0 lets 9 through.
        due("a CURVE between its numbers", 896, () -> z.twin(1));
        z.mode(0, 0);
        z.out(0, 10);
        due("at HIGH: the last one", 0, () -> z.twin(1));
        z.out(0, -10);
        due("at LOW: the first one", 0, () -> z.twin(1));
        StillLoops w = told(STILL + ";gains 0 kp 1 ki 0 kd 0");
        w.lose(0, true);
        w.mode(0, 1);
        due("there nothing trips", 0, () -> w.twin(60));
    }

    /** Where nothing is rounded the twin goes the same way. */
    private static void together(String what, StillLoops x, int n) {
        due(what + ": all is exact", 0, () -> x.twin(n));
        due(what + ": something moves", 1, () -> {
            for (int k = 0; k < x.count(0); k++) {
                for (int t = 1; t <= n; t++) {
                    if (x.ahead(k, t, false) != x.loop(k, 10)) {
                        return 1;
                    }
                }
            }
            return 0;
        });
    }

    private static void twinsOfLaws() {
        promise = 27;
        String wide = "loop lag gain 256 tau 0 low -9999 high 9999;";
        StillLoops all = told(wide + "gains 0 kp 256 ki 8192 kd 256;law 0 c 128 filter 0 back 256");
        all.mode(0, 1);
        all.set(0, 4096);
        // E is 4096 by 8, and so on: exact four times.
        together("P, I and D", all, 4);
        all.ticks(1);
        together("P, I and D, from a TICK later", all, 3);
        StillLoops i = told(wide + "gains 0 kp 0 ki 8192 kd 0");
        i.mode(0, 1);
        i.set(0, 4096);
        together("I alone", i, 9);
        i.set(0, -4096);
        together("I alone, below", i, 9);
        StillLoops b = told(wide + "gains 0 kp 128 ki 0 kd 0;law 0 b 64 filter 0");
        b.mode(0, 1);
        b.set(0, 8192);
        together("B", b, 8);
        StillLoops rate = told(wide + "gains 0 kp 0 ki 0 kd 256;law 0 c 256 filter 1");
        rate.mode(0, 1);
        rate.set(0, 4096);
        together("D by a FILTER", rate, 12);
        rate.ticks(3);
        together("D by a FILTER, later", rate, 9);
        StillLoops back = told("loop lag gain 256 tau 0 low -1024 high 1024;gains 0 kp 256 ki 0 kd 0;law 0 filter 0 back 256");
        back.mode(0, 1);
        back.set(0, 4096);
        together("BACK", back, 40);
        back.set(0, -4096);
        together("BACK, below", back, 40);
        StillLoops hand = told(wide + "gains 0 kp 999 ki 999 kd 999");
        hand.out(0, 77);
        together("MANUAL", hand, 60);
        StillLoops sets = told(wide + "gains 0 kp 256 ki 0 kd 0;gains 0 from 4 kp 0 ki 0 kd 0;law 0 filter 0");
        sets.mode(0, 1);
        sets.set(0, 8);
        // Here PV of 8 changes the SET, which holds OUT; there it stays, and PV goes 8, 0, 8, 0 ..
        due("the SET stays as it is", 0, () -> sets.twin(1));
        due("the SET stays as it is", 0, () -> sets.twin(2));
        due("without a bump in I", 8000, () -> {
            sets.ticks(1);
            return sets.twin(2);
        });
    }

    private static void twinsOfPlants() {
        promise = 27;
        for (String kind : new String[] {"lag", "level", "slow"}) {
            StillLoops x = told("loop " + kind + " gain 256 tau 1 low -9999 high 9999");
            x.out(0, kind.equals("level") ? 16 : 4096);
            together(kind, x, 12);
            x.load(0, kind.equals("level") ? -4 : -512);
            together(kind + " with LOAD", x, 12);
            x.ticks(3);
            together(kind + ", later", x, 9);
            x.out(0, 0);
            together(kind + ", back again", x, 8);
        }
        for (int late : new int[] {0, 1, 7, 8}) {
            StillLoops x = told("loop lag gain 256 tau 0 low -99 high 99 late " + late);
            for (int n = 1; n <= 9; n++) {
                x.out(0, n * n);
                x.ticks(1);
            }
            x.out(0, -5);
            together("LATE " + late, x, 20);
        }
        for (int sign = -1; sign <= 1; sign += 2) {
            StillLoops x = told("loop level gain 999 tau 0 low -9999 high 9999");
            x.out(0, 9999 * sign);
            together("to the bound of Y", x, 3);
            x.ticks(1);
            x.out(0, -sign);
            together("and off it", x, 3);
        }
    }

    private static void twinsOfValves() {
        promise = 27;
        for (int sign = -1; sign <= 1; sign += 2) {
            StillLoops stuck = told("loop lag gain 256 tau 0 low -99 high 99;law 0 stick 3");
            stuck.out(0, 5 * sign);
            stuck.ticks(1);
            stuck.out(0, 2 * sign);
            stuck.load(0, 1);
            together("it begins as POS", stuck, 5);
            StillLoops x = told("loop lag gain 256 tau 0 low -99 high 99;law 0 stick 3");
            x.out(0, 5 * sign);
            together("moved", x, 5);
            x.ticks(1);
            x.out(0, 2 * sign);
            due("3 off: sticks in both", 0, () -> x.twin(5));
            x.out(0, 8 * sign);
            due("3 off, the other way", 0, () -> x.twin(5));
            x.out(0, sign);
            together("4 off", x, 5);
            x.out(0, 9 * sign);
            together("4 off, the other way", x, 5);
        }
        StillLoops two = told("loop lag gain 256 tau 0 low 0 high 1;curve 0 5 9");
        together("two numbers at LOW", two, 2);
        two.ticks(1);
        two.out(0, 1);
        together("two numbers at HIGH", two, 2);
        StillLoops many = told("loop lag gain 256 tau 0 low -70 high 70;curve 0 0 100 50 800 999 0 7 70");
        int was = 0;
        for (int p = -70; p <= 70; p += 10) {
            many.out(0, p);
            due("at " + p, many.flow(0, p) == was ? 0 : 1, () -> bit(many.ahead(0, 1, false) != many.loop(0, 10)));
            // Half way between 800 and 999, 999 and 0, 0 and 7, 7 and 70 a half is rounded away here.
            due("a CURVE at " + p, p >= 0 && p % 20 == 0 ? 500 : 0, () -> many.twin(3));
            many.ticks(1);
            was = many.flow(0, p);
        }
    }

    private static void twinsOfMany() {
        promise = 27;
        String plain = "loop lag gain 256 tau 0 low -80 high 80";
        StillLoops x = told(plain + ";" + plain + " on 0;" + plain + " on 0",
                "gains 0 kp 256 ki 0 kd 0;gains 1 kp 256 ki 0 kd 0;gains 2 kp 256 ki 0 kd 0;law 0 filter 0;law 1 filter 0;law 2 filter 0");
        x.out(1, 12);
        x.out(2, 40);
        together("the feed is PV of the least", x, 20);
        x.ticks(5);
        x.set(1, 9);
        x.set(2, 4);
        x.mode(1, 1);
        x.set(1, 24);
        x.mode(2, 1);
        x.out(0, 60);
        together("AUTO ON one: its own SP", x, 20);
        x.mode(0, 1);
        together("FOLLOWING", x, 20);
        x.mode(2, 2);
        x.set(0, 64);
        together("CASCADE beside AUTO", x, 5);
        x.mode(1, 2);
        x.set(0, -64);
        together("both in CASCADE", x, 5);
    }

    private static void rooms() {
        promise = 7;
        StillLoops x = told(LAG + ";gains 0 kp 0 ki 9999 kd 0");
        due("the least", I_MOST, () -> x.inner(0, 5));
        tell(x, "gains 0 kp 9999 ki 0 kd 9999;law 0 b 256 c 256");
        due("the most", I_MOST + 9999L * 512 * 9999 + 9999L * 2 * 512 * 9999, () -> x.inner(0, 5));
        tell(x, "law 0 b 0 c 0");
        due("B and C 0", I_MOST + 9999L * 256 * 9999 + 9999L * 2 * 256 * 9999, () -> x.inner(0, 5));
        StillLoops y = told(LAG + ";gains 0 kp 5 ki 0 kd 0;gains 0 from 1 kp 0 ki 0 kd 3;gains 0 from 2 kp 3 ki 0 kd 1");
        due("5 times 512, the most of one SET, not of all", I_MOST + 5L * 512 * 9999, () -> y.inner(0, 5));
        tell(y, "gains 0 kp 3 ki 0 kd 0");
        due("3 times 512 and 2 times 256, together", I_MOST + (3L * 512 + 2 * 256) * 9999, () -> y.inner(0, 5));
    }

    private static void images() {
        promise = 36;
        StillLoops x = new StillLoops();
        due("none kept", 0, () -> bit(x.back()));
        x.image();
        tell(x, LAG, LAG);
        x.mode(0, 1);
        x.ticks(5);
        due("back to no LOOPS", 1, () -> bit(x.back()));
        due("LOOPS", 0, () -> x.count(0));
        due("texts", 0, () -> x.count(1));
        due("TICK", 0, () -> x.count(2));
        due("LOG", 0, () -> x.count(4));
        due("no LOOP 0", INDEX, () -> x.loop(0, 0));
        for (int n = 1; n <= 12; n++) {
            due("12 texts again", n, x::bench);
        }
        due("no more", UNSUPPORTED, x::bench);
        due("back", 1, () -> bit(x.back()));
        due("a first text again", 1, x::bench);
        promise = 35;
        StillLoops y = told(LAG + ";at 3 load 0 4;at 9 load 0 5");
        y.ticks(2);
        y.image();
        y.ticks(5);
        y.image();
        y.ticks(5);
        due("the latest is kept", 1, () -> bit(y.back()));
        due("TICK 7", 7, () -> y.count(2));
        due("one EVENT", 1, () -> y.count(3));
        due("LOAD", 4, () -> y.loop(0, 4));
        promise = 36;
        y.ticks(3);
        due("LOAD", 5, () -> y.loop(0, 4));
        due("as often as one likes", 1, () -> bit(y.back()));
        due("TICK 7", 7, () -> y.count(2));
        due("the EVENT waits again", 9, () -> y.event(0, 0));
        y.feed(0x6c617720, 0x30206220, 0x39202020, 0x20202020, 0x20202020);
        y.back();
        due("the TAPE stays", 2, y::bench);
        due("b 9", 9, () -> y.weight(0, 0));
        y.back();
        due("b 256", 256, () -> y.weight(0, 0));
        due("one text", 1, () -> y.count(1));
        due("a time behind TICK can be told again", 2, () -> {
            tape(y, "at 7 lost 0");
            return y.bench();
        });
    }

    /** A LOOP that was gone back behind at its limit, told anew: nothing of that is left. */
    private static void toldAnew() {
        promise = 36;
        StillLoops x = new StillLoops();
        x.image();
        tell(x, STILL + ";gains 0 kp 256 ki 0 kd 0;law 0 back 0");
        x.mode(0, 1);
        x.set(0, 11);
        x.ticks(5);
        tell(x, "law 0");
        due("STUCK", 5, () -> x.loop(0, 16));
        due("a ROUND is looked for", 1, () -> x.round(true));
        tell(x, "law 0");
        x.back();
        tell(x, STILL);
        same("as a new one", seen(told(STILL)), seen(x));
    }

    private static void whiches() {
        promise = 32;
        StillLoops none = new StillLoops();
        for (int what = 0; what <= 8; what++) {
            int w = what;
            due("without LOOPS", 0, () -> none.which(w));
        }
        StillLoops x = told(STILL + ";" + STILL + " on 0;" + STILL + ";" + STILL);
        due("all in MANUAL", 15, () -> x.which(0));
        x.mode(0, 1);
        x.mode(1, 2);
        x.relay(2, 1, 0);
        long[] modes = {8, 1, 2, 4};
        for (int what = 0; what < 4; what++) {
            int w = what;
            due("in MODE " + what, modes[what], () -> x.which(w));
        }
        for (int k = 0; k < 4; k++) {
            x.lose(k, true);
        }
        due("all LOST", 15, () -> x.which(4));
        x.lose(1, false);
        due("but for one", 13, () -> x.which(4));
        x.ticks(1);
        due("with TRIPS", 7, () -> x.which(7));
        due("all in MANUAL", 15, () -> x.which(0));
        due("none AT 1", 0, () -> x.which(5));
        due("none AT - 1", 0, () -> x.which(6));
    }
}
