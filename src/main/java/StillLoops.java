import java.util.NoSuchElementException;

/** A bench of control loops that reckon in whole numbers; ../shared/DOC.md says what each call promises. */
public final class StillLoops {
    public static final int NONE = -1;

    private static final int TAPE_MOST = 400;
    private static final int TEXTS_MOST = 12;
    private static final int LINES_MOST = 14;
    private static final int LOOPS_MOST = 4;
    private static final int SETS_MOST = 3;
    private static final int EVENTS_MOST = 8;
    private static final int LOG_MOST = 60;
    private static final int TICKS_MOST = 60;
    private static final int STEP_TICKS = 100;
    private static final int FEEDS = 9;
    private static final int CURVE_MOST = 8;

    private static final int MANUAL = 0;
    private static final int AUTO = 1;
    private static final int CASCADE = 2;
    private static final int RELAY = 3;

    private static final int LAG = 0;
    private static final int LEVEL = 1;
    private static final int SLOW = 2;

    private static final int CAUSE_LOST = 0;
    private static final int CAUSE_LEADER = 1;
    private static final int CAUSE_STUCK = 2;

    private static final int EVENT_SET = 0;
    private static final int EVENT_LOAD = 1;
    private static final int EVENT_LOST = 2;
    private static final int EVENT_FOUND = 3;
    private static final int EVENT_MODE = 4;

    private static final int LOG_SET = 0;
    private static final int LOG_MODE = 1;
    private static final int LOG_TRIP = 2;
    private static final int LOG_RELAY = 3;

    private static final int VALUE_MOST = 9999;
    private static final int LOAD_MOST = 999;
    private static final int SIZE_MOST = 999;
    private static final int Y_MOST = 2559744;
    private static final long I_MOST = 1000000000000L;
    private static final int STUCK_MOST = 50;

    private final Reader reader = new Reader();
    private int firstWrong = NONE;
    private final Bench now = new Bench();
    private final Bench kept = new Bench();
    private boolean isKept = false;
    /** Where all that is AHEAD goes on, so that nothing of it stays. */
    private final Bench trial = new Bench();
    private final Twin floating = new Twin();
    private final Rounds rounds = new Rounds();

    public StillLoops() {
    }

    public int feed(int a, int b, int c, int d, int e) {
        if (reader.taped + 20 > TAPE_MOST) {
            return NONE;
        }
        reader.append(a);
        reader.append(b);
        reader.append(c);
        reader.append(d);
        reader.append(e);
        return reader.taped;
    }

    public boolean end(int n) {
        if (n < 0 || n > reader.taped) {
            return false;
        }
        reader.taped = n;
        return true;
    }

    public int bench() throws IllegalArgumentException, UnsupportedOperationException {
        reader.draft.copyFrom(now);
        firstWrong = reader.read();
        if (firstWrong != NONE) {
            throw new IllegalArgumentException();
        }
        if (now.texts >= TEXTS_MOST) {
            throw new UnsupportedOperationException();
        }
        now.copyFrom(reader.draft);
        now.texts++;
        return now.texts;
    }

    public int fault() {
        return firstWrong;
    }

    public int loop(int loop, int what) throws IndexOutOfBoundsException, NoSuchElementException {
        Loop l = knownLoop(loop);
        switch (what) {
            case 0: return l.plant.kind;
            case 1: return l.plant.gain;
            case 2: return l.plant.tau;
            case 3: return l.plant.late;
            case 4: return l.plant.load;
            case 5: return l.valve.low;
            case 6: return l.valve.high;
            case 7: return l.on;
            case 8: return l.mode;
            case 9: return l.sp;
            case 10: return l.plant.pv();
            case 11: return l.out;
            case 12: return l.valve.pos;
            case 13: return l.set;
            case 14: return l.law.sets;
            case 15: return l.at;
            case 16: return l.stuck;
            case 17: return l.lost ? 1 : 0;
            case 18: return l.ku;
            case 19: return l.tu;
            case 20: return l.valve.points;
            default: throw new NoSuchElementException();
        }
    }

    public long inner(int loop, int what) throws IndexOutOfBoundsException, NoSuchElementException {
        Loop l = knownLoop(loop);
        switch (what) {
            case 0: return l.plant.y;
            case 1: return l.plant.z;
            case 2: return l.i;
            case 3: return l.f;
            case 4: return l.r;
            case 5: return l.law.room();
            default: throw new NoSuchElementException();
        }
    }

    public int gain(int loop, int set, int what) throws IndexOutOfBoundsException, NoSuchElementException {
        Law law = knownLoop(loop).law;
        if (set < 0 || set >= law.sets) {
            throw new IndexOutOfBoundsException();
        }
        switch (what) {
            case 0: return law.from[set];
            case 1: return law.kp[set];
            case 2: return law.ki[set];
            case 3: return law.kd[set];
            default: throw new NoSuchElementException();
        }
    }

    public int weight(int loop, int what) throws IndexOutOfBoundsException, NoSuchElementException {
        Loop l = knownLoop(loop);
        switch (what) {
            case 0: return l.law.b;
            case 1: return l.law.c;
            case 2: return l.law.filter;
            case 3: return l.law.back;
            case 4: return l.valve.stick;
            case 5: return l.law.hyst;
            default: throw new NoSuchElementException();
        }
    }

    public int trip(int loop, int k) throws IndexOutOfBoundsException {
        Loop l = knownLoop(loop);
        return k < 0 || k >= l.tripped ? NONE : l.trips[k];
    }

    public int whose(int loop, int k) throws IndexOutOfBoundsException {
        Loop l = knownLoop(loop);
        if (k < 0 || k >= l.tripped) {
            return NONE;
        }
        int who = loop;
        for (int step = 0; step < k && who != NONE; step++) {
            who = now.loops[who].on;
        }
        return who;
    }

    public int flow(int loop, int p) throws IndexOutOfBoundsException, IllegalArgumentException {
        Valve valve = knownLoop(loop).valve;
        checkBetween(p, valve.low, valve.high);
        return valve.flowOf(p);
    }

    public int ticks(int n) throws IllegalArgumentException {
        checkBetween(n, 1, TICKS_MOST);
        int tripped = 0;
        for (int t = 0; t < n; t++) {
            now.happen();
            tripped |= now.advance();
        }
        return Integer.bitCount(tripped);
    }

    public int mode(int loop, int mode)
            throws IndexOutOfBoundsException, IllegalArgumentException, IllegalStateException {
        Loop l = knownLoop(loop);
        checkMode(l, mode);
        int was = l.mode;
        now.tellMode(loop, mode);
        return was;
    }

    public int set(int loop, int sp)
            throws IndexOutOfBoundsException, IllegalArgumentException, IllegalStateException {
        Loop l = knownLoop(loop);
        checkBetween(sp, -VALUE_MOST, VALUE_MOST);
        if (l.mode == CASCADE) {
            throw new IllegalStateException();
        }
        int was = l.sp;
        l.sp = sp;
        return was;
    }

    public int out(int loop, int v)
            throws IndexOutOfBoundsException, IllegalArgumentException, IllegalStateException {
        Loop l = knownLoop(loop);
        checkBetween(v, l.valve.low, l.valve.high);
        checkInMode(l, MANUAL);
        int was = l.out;
        l.out = v;
        l.balance();
        return was;
    }

    public int gains(int loop, int kp, int ki, int kd) throws IndexOutOfBoundsException, IllegalArgumentException {
        Loop l = knownLoop(loop);
        checkBetween(kp, 0, VALUE_MOST);
        checkBetween(ki, 0, VALUE_MOST);
        checkBetween(kd, 0, VALUE_MOST);
        l.tellGains(kp, ki, kd);
        return l.set;
    }

    public int load(int loop, int n) throws IndexOutOfBoundsException, IllegalArgumentException {
        Plant plant = knownLoop(loop).plant;
        checkBetween(n, -LOAD_MOST, LOAD_MOST);
        int was = plant.load;
        plant.load = n;
        return was;
    }

    public boolean lose(int loop, boolean is) throws IndexOutOfBoundsException {
        Loop l = knownLoop(loop);
        boolean changed = l.lost != is;
        l.lost = is;
        return changed;
    }

    public int relay(int loop, int d, int h)
            throws IndexOutOfBoundsException, IllegalArgumentException, IllegalStateException {
        Loop l = knownLoop(loop);
        checkBetween(d, 1, 999);
        checkBetween(h, 0, 99);
        checkInMode(l, MANUAL);
        if (l.out - d < l.valve.low || l.out + d > l.valve.high) {
            throw new IllegalStateException();
        }
        l.beginRelay(d, h);
        return l.test.side;
    }

    public int tune(int loop, int rule)
            throws IndexOutOfBoundsException, IllegalArgumentException, IllegalStateException {
        Loop l = knownLoop(loop);
        checkBetween(rule, 0, 2);
        if (l.ku == NONE) {
            throw new IllegalStateException();
        }
        return l.tuneBy(rule);
    }

    public int bump(int loop, int mode)
            throws IndexOutOfBoundsException, IllegalArgumentException, IllegalStateException {
        Loop l = knownLoop(loop);
        checkMode(l, mode);
        trial.copyFrom(now);
        trial.tellMode(loop, mode);
        trial.advance();
        return Math.abs(trial.loops[loop].out - l.out);
    }

    public int round(boolean length) {
        startAt(0, 0);
        rounds.find(trial, reader.draft);
        return length ? rounds.length : rounds.begin;
    }

    public int sweep(int loop) throws IndexOutOfBoundsException {
        knownLoop(loop);
        startAt(0, 0);
        rounds.find(trial, reader.draft);
        return rounds.sweepOf(trial, loop);
    }

    public int starts(int loop, int what) throws IndexOutOfBoundsException, NoSuchElementException {
        knownLoop(loop);
        if (what < 0 || what > 4) {
            throw new NoSuchElementException();
        }
        rounds.clearTally();
        for (int start = 0; start < Rounds.STARTS; start++) {
            startAt(loop, 256 * (start - Rounds.STARTS / 2));
            rounds.find(trial, reader.draft);
            rounds.tallyFound(trial);
        }
        return rounds.tally[what];
    }

    public int step(int loop, int size, int what)
            throws IndexOutOfBoundsException, NoSuchElementException,
            IllegalArgumentException, IllegalStateException {
        Loop l = knownLoop(loop);
        if (what < 0 || what > 3) {
            throw new NoSuchElementException();
        }
        checkBetween(size, -SIZE_MOST, SIZE_MOST);
        if (size == 0) {
            throw new IllegalArgumentException();
        }
        checkInMode(l, AUTO);
        return stepAnswer(loop, size, what);
    }

    private int stepAnswer(int loop, int size, int what) {
        trial.copyFrom(now);
        Loop l = trial.loops[loop];
        l.sp = (int) within((long) l.sp + size, -VALUE_MOST, VALUE_MOST);
        int most = 0;
        int reached = NONE;
        int settled = NONE;
        int sum = 0;
        for (int n = 1; n <= STEP_TICKS; n++) {
            trial.advance();
            int gap = Math.abs(l.sp - l.plant.pv());
            int beyond = size > 0 ? l.plant.pv() - l.sp : l.sp - l.plant.pv();
            most = Math.max(most, beyond);
            if (beyond >= 0 && reached == NONE) {
                reached = n;
            }
            if (gap > 1 && 50 * gap > Math.abs(size)) {
                settled = NONE;
            } else if (settled == NONE) {
                settled = n;
            }
            sum += gap;
        }
        switch (what) {
            case 0: return most;
            case 1: return reached;
            case 2: return settled;
            default: return sum;
        }
    }

    public int twin(int n) throws IllegalArgumentException, IllegalStateException {
        checkBetween(n, 0, TICKS_MOST);
        for (int k = 0; k < now.size; k++) {
            if (now.loops[k].mode == RELAY) {
                throw new IllegalStateException();
            }
        }
        trial.copyFrom(now);
        floating.begin(now);
        double most = 0;
        for (int t = 0; t < n; t++) {
            trial.advance();
            floating.advance(now);
            double apart = floating.farthestFrom(trial);
            most = apart > most ? apart : most;
        }
        double thousandths = most * 1000;
        return thousandths >= 99999999 ? 99999999 : (int) thousandths;
    }

    public int ahead(int loop, int n, boolean out) throws IndexOutOfBoundsException, IllegalArgumentException {
        knownLoop(loop);
        goAhead(n);
        Loop l = trial.loops[loop];
        return out ? l.out : l.plant.pv();
    }

    public long peak(int loop, int n) throws IndexOutOfBoundsException, IllegalArgumentException {
        knownLoop(loop);
        checkBetween(n, 0, TICKS_MOST);
        trial.copyFrom(now);
        long most = 0;
        for (int t = 0; t < n; t++) {
            trial.advance();
            most = Math.max(most, trial.force[loop]);
        }
        return most;
    }

    public int hunts(int loop, int n) throws IndexOutOfBoundsException, IllegalArgumentException {
        knownLoop(loop);
        checkBetween(n, 0, TICKS_MOST);
        trial.copyFrom(now);
        Loop l = trial.loops[loop];
        int crossings = 0;
        boolean wasBelow = l.plant.pv() < l.sp;
        for (int t = 0; t < n; t++) {
            trial.advance();
            boolean isBelow = l.plant.pv() < l.sp;
            if (isBelow != wasBelow) {
                crossings++;
            }
            wasBelow = isBelow;
        }
        return crossings;
    }

    public int worst(int n) throws IllegalArgumentException {
        goAhead(n);
        int worst = NONE;
        int most = NONE;
        for (int k = 0; k < trial.size; k++) {
            int gap = Math.abs(trial.loops[k].plant.pv() - trial.loops[k].sp);
            if (gap > most) {
                most = gap;
                worst = k;
            }
        }
        return worst;
    }

    public int which(int what) throws NoSuchElementException {
        if (what < 0 || what > 8) {
            throw new NoSuchElementException();
        }
        int bits = 0;
        for (int k = 0; k < now.size; k++) {
            if (now.isSuch(k, what)) {
                bits |= 1 << k;
            }
        }
        return bits;
    }

    public int event(int k, int what) throws IndexOutOfBoundsException, NoSuchElementException {
        if (k < 0 || k >= now.events.size) {
            throw new IndexOutOfBoundsException();
        }
        if (what < 0 || what > 3) {
            throw new NoSuchElementException();
        }
        return now.events.cell(k, what);
    }

    public int log(int ago, int what) throws NoSuchElementException {
        if (what < 0 || what > 3) {
            throw new NoSuchElementException();
        }
        if (ago < 0 || ago >= now.log.size) {
            return NONE;
        }
        return now.log.cell(now.log.size - 1 - ago, what);
    }

    public void image() {
        kept.copyFrom(now);
        isKept = true;
    }

    public boolean back() {
        if (isKept) {
            now.copyFrom(kept);
        }
        return isKept;
    }

    public int count(int what) {
        switch (what) {
            case 0: return now.size;
            case 1: return now.texts;
            case 2: return now.tick;
            case 3: return now.events.size;
            case 4: return now.log.size;
            default: return NONE;
        }
    }

    private Loop knownLoop(int loop) {
        if (loop < 0 || loop >= now.size) {
            throw new IndexOutOfBoundsException();
        }
        return now.loops[loop];
    }

    private static void checkBetween(int number, int least, int most) {
        if (number < least || number > most) {
            throw new IllegalArgumentException();
        }
    }

    private static void checkInMode(Loop l, int mode) {
        if (l.mode != mode) {
            throw new IllegalStateException();
        }
    }

    private static void checkMode(Loop l, int mode) {
        checkBetween(mode, MANUAL, CASCADE);
        if (mode == CASCADE && l.on == NONE) {
            throw new IllegalStateException();
        }
    }

    private void goAhead(int n) {
        checkBetween(n, 0, TICKS_MOST);
        trial.copyFrom(now);
        for (int t = 0; t < n; t++) {
            trial.advance();
        }
    }

    /** Puts two benches where a search for a ROUND begins; between texts the reader's draft is free for that. */
    private void startAt(int loop, int above) {
        trial.copyFrom(now);
        Plant plant = trial.loops[loop].plant;
        plant.y = (int) within((long) plant.y + above, -Y_MOST, Y_MOST);
        reader.draft.copyFrom(trial);
    }

    private static long within(long number, long least, long most) {
        return number < least ? least : number > most ? most : number;
    }

    private static double bounded(double number, double least, double most) {
        return number < least ? least : number > most ? most : number;
    }

    /** Rows of four numbers, in the order in which they came; one too many pushes the oldest out. */
    private static final class Rows {
        final int[] cells;
        final int most;
        int size = 0;

        Rows(int most) {
            this.most = most;
            cells = new int[4 * most];
        }

        void add(int a, int b, int c, int d) {
            if (size >= most) {
                drop(0);
            }
            int from = 4 * size;
            cells[from] = a;
            cells[from + 1] = b;
            cells[from + 2] = c;
            cells[from + 3] = d;
            size++;
        }

        void drop(int k) {
            System.arraycopy(cells, 4 * k + 4, cells, 4 * k, 4 * (size - k - 1));
            size--;
        }

        int cell(int k, int what) {
            return cells[4 * k + what];
        }

        void copyFrom(Rows other) {
            System.arraycopy(other.cells, 0, cells, 0, 4 * other.size);
            size = other.size;
        }
    }

    /** What is measured: Y and Z move by what is fed, LATE TICKS later. */
    private static final class Plant {
        int kind;
        int gain;
        int tau;
        int late;
        int load;
        int y;
        int z;
        /** The latest comes first. */
        final int[] feeds = new int[FEEDS];

        void clear() {
            late = 0;
            load = 0;
            y = 0;
            z = 0;
            for (int k = 0; k < FEEDS; k++) {
                feeds[k] = 0;
            }
        }

        int pv() {
            return y >> 8;
        }

        void take(int fed) {
            System.arraycopy(feeds, 0, feeds, 1, FEEDS - 1);
            feeds[0] = fed;
            int pushed = gain * feeds[late] + 256 * load;
            if (kind == LAG) {
                y += (pushed - y) >> tau;
            } else if (kind == LEVEL) {
                y += pushed >> tau;
            } else {
                z += (pushed - z) >> tau;
                y += (z - y) >> tau;
            }
            y = (int) within(y, -Y_MOST, Y_MOST);
        }

        void copyFrom(Plant other) {
            kind = other.kind;
            gain = other.gain;
            tau = other.tau;
            late = other.late;
            load = other.load;
            y = other.y;
            z = other.z;
            System.arraycopy(other.feeds, 0, feeds, 0, FEEDS);
        }
    }

    /** What is moved: the limits of OUT, and POS, which sticks and lets a FLOW through by a CURVE. */
    private static final class Valve {
        int low;
        int high;
        int stick;
        int pos;
        int points;
        final int[] curve = new int[CURVE_MOST];

        void clear() {
            stick = 0;
            points = 0;
        }

        int limited(long wanted) {
            return (int) within(wanted, low, high);
        }

        void moveTo(int out) {
            if (Math.abs(out - pos) > stick) {
                pos = out;
            }
        }

        int flowOf(int p) {
            int span = high - low;
            if (points < 2 || span <= 0) {
                return p;
            }
            int t = (p - low) * (points - 1);
            int k = t / span;
            int left = t % span;
            if (left == 0) {
                return curve[k];
            }
            return curve[k] + Math.floorDiv((curve[k + 1] - curve[k]) * left, span);
        }

        void copyFrom(Valve other) {
            low = other.low;
            high = other.high;
            stick = other.stick;
            pos = other.pos;
            points = other.points;
            System.arraycopy(other.curve, 0, curve, 0, CURVE_MOST);
        }
    }

    /** The numbers by which a LOOP reckons: weights, and gains in SETS. */
    private static final class Law {
        int b;
        int c;
        int filter;
        int back;
        int hyst;
        int sets;
        final int[] from = new int[SETS_MOST];
        final int[] kp = new int[SETS_MOST];
        final int[] ki = new int[SETS_MOST];
        final int[] kd = new int[SETS_MOST];

        void clear() {
            b = 256;
            c = 0;
            filter = 2;
            back = 64;
            hyst = 0;
            sets = 1;
            from[0] = -VALUE_MOST;
            layGains(0, 256, 64, 0);
        }

        void layGains(int set, int newKp, int newKi, int newKd) {
            kp[set] = newKp;
            ki[set] = newKi;
            kd[set] = newKd;
        }

        /** The SET to use by PV, where inUse is the one in use so far. */
        int setFor(int pv, int inUse) {
            int fit = 0;
            for (int k = 1; k < sets; k++) {
                if (from[k] <= pv) {
                    fit = k;
                }
            }
            boolean changes = fit > inUse || fit < inUse && pv < from[inUse] - hyst;
            return changes ? fit : inUse;
        }

        long room() {
            long most = 0;
            for (int k = 0; k < sets; k++) {
                long p = (long) kp[k] * (b + 256) * VALUE_MOST;
                long d = (long) kd[k] * 2 * (c + 256) * VALUE_MOST;
                most = Math.max(most, p + d);
            }
            return I_MOST + most;
        }

        void copyFrom(Law other) {
            b = other.b;
            c = other.c;
            filter = other.filter;
            back = other.back;
            hyst = other.hyst;
            sets = other.sets;
            System.arraycopy(other.from, 0, from, 0, SETS_MOST);
            System.arraycopy(other.kp, 0, kp, 0, SETS_MOST);
            System.arraycopy(other.ki, 0, ki, 0, SETS_MOST);
            System.arraycopy(other.kd, 0, kd, 0, SETS_MOST);
        }
    }

    /** What a RELAY test has. */
    private static final class RelayTest {
        static final int LAST_UP = 4;
        static final int OLDEST = 240;

        int d;
        int h;
        int middle;
        int side;
        int ups;
        int age;
        int since;
        int top;
        int bottom;

        /** Whether SIDE went up in this TICK. */
        boolean turn(int y, int error) {
            top = Math.max(top, y);
            bottom = Math.min(bottom, y);
            age++;
            since++;
            if (side == -1 && error > h) {
                side = 1;
                ups++;
                return true;
            }
            if (side == 1 && error < -h) {
                side = -1;
            }
            return false;
        }

        void countFrom(int y) {
            since = 0;
            top = y;
            bottom = y;
        }

        int reckonKu() {
            long swing = (long) top - bottom;
            if (swing <= 0) {
                return VALUE_MOST;
            }
            return (int) Math.min(VALUE_MOST, 59244544L * d / (355 * swing));
        }

        void copyFrom(RelayTest other) {
            d = other.d;
            h = other.h;
            middle = other.middle;
            side = other.side;
            ups = other.ups;
            age = other.age;
            since = other.since;
            top = other.top;
            bottom = other.bottom;
        }
    }

    /** One LOOP, as far as it needs no other one. */
    private static final class Loop {
        /** How many numbers told has. */
        static final int TOLD = 16 + FEEDS;

        final Plant plant = new Plant();
        final Valve valve = new Valve();
        final Law law = new Law();
        final RelayTest test = new RelayTest();
        int on;
        int mode;
        int sp;
        int out;
        long i;
        long f;
        long r;
        int set;
        int at;
        int stuck;
        boolean lost;
        final int[] trips = new int[LOOPS_MOST];
        int tripped;
        int ku;
        int tu;

        void clear() {
            plant.clear();
            valve.clear();
            law.clear();
            on = NONE;
            mode = MANUAL;
            sp = 0;
            i = 0;
            f = 0;
            r = 0;
            set = 0;
            at = 0;
            stuck = 0;
            lost = false;
            tripped = 0;
            ku = NONE;
            tu = NONE;
        }

        void limitTo(int low, int high) {
            valve.low = low;
            valve.high = high;
            out = valve.limited(0);
            valve.pos = out;
        }

        /** P and D together, by the gains of a SET. */
        long pull(int which) {
            long p = law.kp[which] * ((long) law.b * sp - 256L * plant.pv());
            return p + law.kd[which] * f;
        }

        void keepI(long wanted) {
            i = within(wanted, -I_MOST, I_MOST);
        }

        void balance() {
            keepI(65536L * out - pull(set));
        }

        void tellGains(int kp, int ki, int kd) {
            long before = pull(set);
            law.layGains(set, kp, ki, kd);
            keepI(i + before - pull(set));
        }

        /** Whether the SET in use changed. */
        boolean chooseSet() {
            int chosen = law.setFor(plant.pv(), set);
            if (chosen == set) {
                return false;
            }
            keepI(i + pull(set) - pull(chosen));
            set = chosen;
            return true;
        }

        void filterRate() {
            long g = (long) law.c * sp - 256L * plant.pv();
            f += (g - r - f) >> law.filter;
            r = g;
        }

        void beginRelay(int d, int h) {
            ku = NONE;
            tu = NONE;
            mode = RELAY;
            test.d = d;
            test.h = h;
            test.middle = out;
            test.side = sp >= plant.pv() ? 1 : -1;
            test.ups = 0;
            test.age = 0;
            test.countFrom(plant.y);
        }

        /** One TICK of the RELAY test: whether it ended. */
        boolean relayEnds() {
            boolean up = test.turn(plant.y, sp - plant.pv());
            boolean ends = test.age >= RelayTest.OLDEST;
            if (up && test.ups >= RelayTest.LAST_UP) {
                ends = true;
                tu = test.since;
                ku = test.reckonKu();
            } else if (up) {
                test.countFrom(plant.y);
            }
            if (ends) {
                mode = MANUAL;
                out = test.middle;
            } else {
                out = test.middle + test.side * test.d;
            }
            return ends;
        }

        /** The KP that was reckoned. */
        int tuneBy(int rule) {
            int time = Math.max(1, tu);
            int kp = rule == 0 ? 3 * ku / 5 : rule == 1 ? 9 * ku / 20 : ku / 3;
            int ki = rule == 1 ? 1536 * kp / (5 * time) : 512 * kp / time;
            int kd = rule == 0 ? kp * time / 8 : rule == 1 ? 0 : kp * time / 3;
            tellGains(kp, Math.min(VALUE_MOST, ki), Math.min(VALUE_MOST, kd));
            return kp;
        }

        /** All that may change AHEAD, number by number; those that differ the most often come first. */
        long told(int what) {
            switch (what) {
                case 0: return plant.y;
                case 1: return i;
                case 2: return f;
                case 3: return r;
                case 4: return plant.z;
                case 5: return stuck;
                // A test grows older by each TICK and none begins AHEAD: its age stands for all that it has.
                case 6: return mode == RELAY ? test.age : 0;
                case 7: return mode;
                case 8: return sp;
                case 9: return out;
                case 10: return valve.pos;
                case 11: return set;
                case 12: return at;
                case 13: return tripsAsNumber();
                case 14: return ku;
                case 15: return tu;
                default: return what >= 16 && what < TOLD ? plant.feeds[what - 16] : 0;
            }
        }

        private int tripsAsNumber() {
            int number = 1;
            for (int k = 0; k < tripped; k++) {
                number = 4 * number + trips[k];
            }
            return number;
        }

        void copyFrom(Loop other) {
            plant.copyFrom(other.plant);
            valve.copyFrom(other.valve);
            law.copyFrom(other.law);
            test.copyFrom(other.test);
            on = other.on;
            mode = other.mode;
            sp = other.sp;
            out = other.out;
            i = other.i;
            f = other.f;
            r = other.r;
            set = other.set;
            at = other.at;
            stuck = other.stuck;
            lost = other.lost;
            System.arraycopy(other.trips, 0, trips, 0, LOOPS_MOST);
            tripped = other.tripped;
            ku = other.ku;
            tu = other.tu;
        }
    }

    /** All LOOPS and how they act on one another, with EVENTS and THE LOG. */
    private static final class Bench {
        final Loop[] loops = new Loop[LOOPS_MOST];
        int size = 0;
        int texts = 0;
        int tick = 0;
        final Rows events = new Rows(EVENTS_MOST);
        final Rows log = new Rows(LOG_MOST);
        /** Of the latest TICK: S of each LOOP without its sign, where it ruled OUT; else 0. */
        final long[] force = new long[LOOPS_MOST];
        /** Of the TICK that goes on: whether a LOOP TRIPPED in it. */
        final boolean[] tripping = new boolean[LOOPS_MOST];

        Bench() {
            for (int k = 0; k < LOOPS_MOST; k++) {
                loops[k] = new Loop();
            }
        }

        void copyFrom(Bench other) {
            size = other.size;
            texts = other.texts;
            tick = other.tick;
            for (int k = 0; k < size; k++) {
                loops[k].copyFrom(other.loops[k]);
            }
            events.copyFrom(other.events);
            log.copyFrom(other.log);
        }

        /** The least LOOP that is ON a LOOP; NONE without. */
        int leastOn(int k) {
            for (int other = k + 1; other < size; other++) {
                if (loops[other].on == k) {
                    return other;
                }
            }
            return NONE;
        }

        /** Whether some LOOP ON this one is in CASCADE. */
        private boolean leads(int k) {
            for (int other = k + 1; other < size; other++) {
                if (loops[other].on == k && loops[other].mode == CASCADE) {
                    return true;
                }
            }
            return false;
        }

        /** The LOOP whose SP is followed; NONE where a LOOP is not FOLLOWING. */
        int followedOf(int k) {
            int mode = loops[k].mode;
            return (mode == AUTO || mode == CASCADE) && !leads(k) ? leastOn(k) : NONE;
        }

        /** Whether some LOOP ON this one in CASCADE is at its limit on that side. */
        private boolean heldAt(int k, int side) {
            for (int other = k + 1; other < size; other++) {
                Loop l = loops[other];
                if (l.on == k && l.mode == CASCADE && l.at == side) {
                    return true;
                }
            }
            return false;
        }

        boolean isSuch(int k, int what) {
            Loop l = loops[k];
            switch (what) {
                case 4: return l.lost;
                case 5: return l.at == 1;
                case 6: return l.at == -1;
                case 7: return l.tripped > 0;
                case 8: return followedOf(k) != NONE;
                default: return l.mode == what;
            }
        }

        void tellMode(int k, int mode) {
            Loop l = loops[k];
            if (l.mode == mode) {
                return;
            }
            l.mode = mode;
            l.tripped = 0;
            l.at = 0;
            l.stuck = 0;
            if (mode == CASCADE) {
                takeSp(l);
            }
            if (mode != MANUAL) {
                l.balance();
            }
            log.add(tick, k, LOG_MODE, mode);
        }

        private void takeSp(Loop l) {
            if (l.on != NONE) {
                l.sp = loops[l.on].out;
            }
        }

        /** The EVENTS whose time has come: (a) of a TICK. */
        void happen() {
            int k = 0;
            for (int seen = events.size; seen > 0; seen--) {
                if (events.cell(k, 0) > tick) {
                    k++;
                } else {
                    carryOut(events.cell(k, 1), events.cell(k, 2), events.cell(k, 3));
                    events.drop(k);
                }
            }
        }

        private void carryOut(int what, int k, int number) {
            Loop l = loops[k];
            if (what == EVENT_MODE) {
                tellMode(k, number);
            } else if (what == EVENT_LOAD) {
                l.plant.load = number;
            } else if (what == EVENT_LOST || what == EVENT_FOUND) {
                l.lost = what == EVENT_LOST;
            } else if (l.mode != CASCADE) {
                l.sp = number;
            }
        }

        /** A TICK without (a): the LOOPS that TRIPPED in it, as bits. */
        int advance() {
            int tripped = 0;
            for (int k = 0; k < size; k++) {
                int cause = causeOf(loops[k]);
                tripping[k] = cause != NONE;
                if (cause != NONE) {
                    shutDown(k, cause);
                    tripped |= 1 << k;
                }
                measure(k);
                drive(k);
            }
            // A LOOP is ON a lesser one, so what it feeds back has not moved yet when that one asks.
            for (int k = 0; k < size; k++) {
                int other = leastOn(k);
                Valve valve = loops[k].valve;
                loops[k].plant.take(other == NONE ? valve.flowOf(valve.pos) : loops[other].plant.pv());
            }
            tick++;
            return tripped;
        }

        private int causeOf(Loop l) {
            if (l.mode == MANUAL) {
                return NONE;
            }
            if (l.lost) {
                return CAUSE_LOST;
            }
            if (l.mode == CASCADE && l.on != NONE && tripping[l.on]) {
                return CAUSE_LEADER;
            }
            return l.mode != RELAY && l.stuck >= STUCK_MOST ? CAUSE_STUCK : NONE;
        }

        private void shutDown(int k, int cause) {
            Loop l = loops[k];
            l.mode = MANUAL;
            l.at = 0;
            l.stuck = 0;
            l.trips[0] = cause;
            l.tripped = 1;
            if (cause == CAUSE_LEADER && l.on != NONE) {
                Loop leader = loops[l.on];
                int behind = Math.min(leader.tripped, LOOPS_MOST - 1);
                System.arraycopy(leader.trips, 0, l.trips, 1, behind);
                l.tripped += behind;
            }
            log.add(tick, k, LOG_TRIP, cause);
        }

        /** SP, the SET in use and the rate by PV: (2) and (3) of a TICK. */
        private void measure(int k) {
            Loop l = loops[k];
            if (l.mode == CASCADE) {
                takeSp(l);
            }
            if (l.chooseSet()) {
                log.add(tick, k, LOG_SET, l.set);
            }
            l.filterRate();
        }

        /** OUT, AT, I and POS by the MODE: (4) and (5) of a TICK. */
        private void drive(int k) {
            Loop l = loops[k];
            force[k] = 0;
            l.at = 0;
            int followed = followedOf(k);
            if ((l.mode == AUTO || l.mode == CASCADE) && followed == NONE) {
                rule(k);
            } else {
                if (followed != NONE) {
                    l.out = l.valve.limited(loops[followed].sp);
                } else if (l.mode == RELAY && l.relayEnds()) {
                    log.add(tick, k, LOG_RELAY, l.ku);
                }
                l.balance();
            }
            l.stuck = l.at == 0 ? 0 : Math.min(STUCK_MOST, l.stuck + 1);
            l.valve.moveTo(l.out);
        }

        /** The last case of (4): the LOOP reckons OUT itself. */
        private void rule(int k) {
            Loop l = loops[k];
            long s = l.pull(l.set) + l.i;
            long v = s >> 16;
            force[k] = Math.abs(s);
            l.out = l.valve.limited(v);
            l.at = v > l.valve.high ? 1 : v < l.valve.low ? -1 : 0;
            long e = (long) l.law.ki[l.set] * (l.sp - l.plant.pv()) + 256L * l.law.back * (l.out - v);
            if (e != 0 && !heldAt(k, e > 0 ? 1 : -1)) {
                l.keepI(l.i + e);
            }
        }
    }

    /** The TAPE, and how a text on it is read into a draft; behind the first wrong thing nothing more is read. */
    private static final class Reader {
        final Bench draft = new Bench();
        int taped = 0;
        private final byte[] text = new byte[TAPE_MOST];
        private int length = 0;
        private int at = 0;
        /** Where the latest thing that was read begins. */
        private int begin = 0;
        private int wrong = NONE;

        /** The four bytes of a number, the highest first. */
        void append(int number) {
            for (int shift = 24; shift >= 0 && taped < TAPE_MOST; shift -= 8) {
                text[taped] = (byte) (number >> shift);
                taped++;
            }
        }

        /** Uses the TAPE up: the first wrong byte; NONE without. */
        int read() {
            length = taped;
            taped = 0;
            at = 0;
            wrong = NONE;
            skipBlanks();
            boolean more = at < length;
            for (int lines = 0; more && lines <= LINES_MOST; lines++) {
                skipBlanks();
                if (lines >= LINES_MOST) {
                    refuse(at);
                } else {
                    readLine();
                }
                skipBlanks();
                more = wrong == NONE && at < length;
                if (more && text[at] != ';') {
                    refuse(at);
                    more = false;
                }
                at++;
            }
            return wrong;
        }

        private void readLine() {
            if (takes("loop")) {
                readLoop();
            } else if (takes("law")) {
                readLaw();
            } else if (takes("gains")) {
                readGains();
            } else if (takes("curve")) {
                readCurve();
            } else if (takes("at")) {
                readEvent();
            } else {
                refuse(at);
            }
        }

        private void readLoop() {
            if (draft.size >= LOOPS_MOST) {
                refuse(begin);
                return;
            }
            Loop l = draft.loops[draft.size];
            l.clear();
            l.plant.kind = readKind();
            l.plant.gain = numberBehind("gain", 999);
            l.plant.tau = numberBehind("tau", 8);
            need("low");
            int low = signed(-VALUE_MOST, VALUE_MOST);
            need("high");
            l.limitTo(low, signed(low + 1, VALUE_MOST));
            if (takes("late")) {
                l.plant.late = number(0, 8);
            }
            if (takes("on")) {
                l.on = number(0, draft.size - 1);
            }
            draft.size++;
        }

        private int readKind() {
            if (takes("lag")) {
                return LAG;
            }
            if (takes("level")) {
                return LEVEL;
            }
            need("slow");
            return SLOW;
        }

        private void readLaw() {
            Loop l = readKnownLoop();
            if (l == null) {
                return;
            }
            l.law.b = takes("b") ? number(0, 256) : l.law.b;
            l.law.c = takes("c") ? number(0, 256) : l.law.c;
            l.law.filter = takes("filter") ? number(0, 8) : l.law.filter;
            l.law.back = takes("back") ? number(0, 256) : l.law.back;
            l.valve.stick = takes("stick") ? number(0, 99) : l.valve.stick;
            l.law.hyst = takes("hyst") ? number(0, 99) : l.law.hyst;
        }

        private void readGains() {
            int lineBegin = begin;
            Loop l = readKnownLoop();
            if (l == null) {
                return;
            }
            int set = 0;
            if (takes("from")) {
                set = l.law.sets;
                if (set >= SETS_MOST) {
                    refuse(lineBegin);
                    return;
                }
                l.law.from[set] = signed(l.law.from[set - 1] + 1, VALUE_MOST);
                l.law.sets++;
            }
            int kp = numberBehind("kp", VALUE_MOST);
            int ki = numberBehind("ki", VALUE_MOST);
            int kd = numberBehind("kd", VALUE_MOST);
            l.law.layGains(set, kp, ki, kd);
        }

        private void readCurve() {
            Loop l = readKnownLoop();
            if (l == null) {
                return;
            }
            l.valve.curve[0] = number(0, 999);
            l.valve.curve[1] = number(0, 999);
            int points = 2;
            skipBlanks();
            while (points < CURVE_MOST && wrong == NONE && isDigit(at)) {
                l.valve.curve[points] = number(0, 999);
                points++;
                skipBlanks();
            }
            l.valve.points = points;
        }

        private void readEvent() {
            if (draft.events.size >= EVENTS_MOST) {
                refuse(begin);
                return;
            }
            int time = number(draft.tick, VALUE_MOST);
            int what = readWhat();
            int loop = number(0, draft.size - 1);
            int number = 0;
            if (what == EVENT_SET) {
                number = signed(-VALUE_MOST, VALUE_MOST);
            } else if (what == EVENT_LOAD) {
                number = signed(-LOAD_MOST, LOAD_MOST);
            } else if (what == EVENT_MODE && wrong == NONE) {
                number = readMode(draft.loops[loop]);
            }
            draft.events.add(time, what, loop, number);
        }

        private int readWhat() {
            if (takes("set")) {
                return EVENT_SET;
            }
            if (takes("load")) {
                return EVENT_LOAD;
            }
            if (takes("lost")) {
                return EVENT_LOST;
            }
            if (takes("found")) {
                return EVENT_FOUND;
            }
            need("mode");
            return EVENT_MODE;
        }

        private int readMode(Loop l) {
            if (takes("manual")) {
                return MANUAL;
            }
            if (takes("auto")) {
                return AUTO;
            }
            need("cascade");
            if (l.on == NONE) {
                refuse(begin);
            }
            return CASCADE;
        }

        /** null where no LOOP that there is was told. */
        private Loop readKnownLoop() {
            int k = number(0, draft.size - 1);
            return wrong == NONE ? draft.loops[k] : null;
        }

        private void refuse(int where) {
            if (wrong == NONE) {
                wrong = where;
            }
        }

        private void skipBlanks() {
            while (at < length && text[at] == ' ') {
                at++;
            }
        }

        private boolean isLetter(int where) {
            return where < length && text[where] >= 'a' && text[where] <= 'z';
        }

        private boolean isDigit(int where) {
            return where < length && text[where] >= '0' && text[where] <= '9';
        }

        /** Whether that very word comes; only then one goes behind it. */
        private boolean takes(String word) {
            if (wrong != NONE) {
                return false;
            }
            skipBlanks();
            int behind = at + word.length();
            for (int k = 0; k < word.length(); k++) {
                if (!isLetter(at + k) || text[at + k] != word.charAt(k)) {
                    return false;
                }
            }
            if (isLetter(behind)) {
                return false;
            }
            begin = at;
            at = behind;
            return true;
        }

        private void need(String word) {
            if (!takes(word)) {
                refuse(at);
            }
        }

        private int numberBehind(String word, int most) {
            need(word);
            return number(0, most);
        }

        private int number(int least, int most) {
            if (wrong != NONE) {
                return 0;
            }
            skipBlanks();
            begin = at;
            return checked(digits(), least, most);
        }

        private int signed(int least, int most) {
            if (wrong != NONE) {
                return 0;
            }
            skipBlanks();
            begin = at;
            if (at < length && text[at] == '-') {
                at++;
                return checked(-digits(), least, most);
            }
            return checked(digits(), least, most);
        }

        private int checked(int value, int least, int most) {
            if (value < least || value > most) {
                refuse(begin);
            }
            return wrong == NONE ? value : 0;
        }

        /** The number that begins right here. */
        private int digits() {
            if (!isDigit(at)) {
                refuse(at);
            }
            int from = at;
            int value = 0;
            while (at < length && isDigit(at)) {
                value = at - from < 4 ? 10 * value + text[at] - '0' : value;
                at++;
            }
            if (at - from > 4) {
                refuse(begin);
            }
            return value;
        }
    }

    /** The LOOPS of a bench in floating numbers; SETS in use and MODES are those of the bench. */
    private static final class Twin {
        private final double[] y = new double[LOOPS_MOST];
        private final double[] z = new double[LOOPS_MOST];
        private final double[] i = new double[LOOPS_MOST];
        private final double[] f = new double[LOOPS_MOST];
        private final double[] r = new double[LOOPS_MOST];
        private final double[] sp = new double[LOOPS_MOST];
        private final double[] out = new double[LOOPS_MOST];
        private final double[] pos = new double[LOOPS_MOST];
        private final double[][] feeds = new double[LOOPS_MOST][FEEDS];

        void begin(Bench bench) {
            for (int k = 0; k < bench.size; k++) {
                Loop l = bench.loops[k];
                y[k] = l.plant.y;
                z[k] = l.plant.z;
                i[k] = l.i;
                f[k] = l.f;
                r[k] = l.r;
                sp[k] = l.sp;
                out[k] = l.out;
                pos[k] = l.valve.pos;
                for (int ago = 0; ago < FEEDS; ago++) {
                    feeds[k][ago] = l.plant.feeds[ago];
                }
            }
        }

        void advance(Bench bench) {
            for (int k = 0; k < bench.size; k++) {
                act(bench, k);
            }
            for (int k = 0; k < bench.size; k++) {
                int other = bench.leastOn(k);
                take(bench.loops[k].plant, k, other == NONE ? flowOf(bench.loops[k].valve, k) : y[other] / 256);
            }
        }

        private void act(Bench bench, int k) {
            Loop l = bench.loops[k];
            Law law = l.law;
            int set = l.set;
            double pv = y[k] / 256;
            if (l.mode == CASCADE && l.on != NONE) {
                sp[k] = out[l.on];
            }
            double p = law.kp[set] * (law.b * sp[k] - 256 * pv);
            double g = law.c * sp[k] - 256 * pv;
            f[k] = f[k] + (g - r[k] - f[k]) / (1 << law.filter);
            r[k] = g;
            double d = law.kd[set] * f[k];
            int followed = bench.followedOf(k);
            if (l.mode == MANUAL) {
                i[k] = 65536 * out[k] - p - d;
            } else if (followed != NONE) {
                out[k] = bounded(sp[followed], l.valve.low, l.valve.high);
                i[k] = 65536 * out[k] - p - d;
            } else {
                double v = (p + i[k] + d) / 65536;
                out[k] = bounded(v, l.valve.low, l.valve.high);
                i[k] = i[k] + (law.ki[set] * (sp[k] - pv) + 256 * law.back * (out[k] - v));
            }
            i[k] = bounded(i[k], (double) -I_MOST, (double) I_MOST);
            double apart = out[k] - pos[k];
            if (apart > l.valve.stick || -apart > l.valve.stick) {
                pos[k] = out[k];
            }
        }

        private double flowOf(Valve valve, int k) {
            int span = valve.high - valve.low;
            if (valve.points < 2 || span <= 0) {
                return pos[k];
            }
            double w = (pos[k] - valve.low) * (valve.points - 1) / span;
            int c = Math.max(0, Math.min(valve.points - 2, (int) w));
            return valve.curve[c] + (valve.curve[c + 1] - valve.curve[c]) * (w - c);
        }

        private void take(Plant plant, int k, double fed) {
            for (int ago = FEEDS - 1; ago > 0; ago--) {
                feeds[k][ago] = feeds[k][ago - 1];
            }
            feeds[k][0] = fed;
            double u = feeds[k][plant.late];
            int slowness = 1 << plant.tau;
            if (plant.kind == LAG) {
                y[k] = y[k] + (plant.gain * u + 256 * plant.load - y[k]) / slowness;
            } else if (plant.kind == LEVEL) {
                y[k] = y[k] + (plant.gain * u + 256 * plant.load) / slowness;
            } else {
                z[k] = z[k] + (plant.gain * u + 256 * plant.load - z[k]) / slowness;
                y[k] = y[k] + (z[k] - y[k]) / slowness;
            }
            y[k] = bounded(y[k], (double) -Y_MOST, (double) Y_MOST);
        }

        /** How far the PV that is the farthest off is off. */
        double farthestFrom(Bench bench) {
            double most = 0;
            for (int k = 0; k < bench.size; k++) {
                double apart = y[k] / 256 - bench.loops[k].plant.y / 256.0;
                apart = apart < 0 ? -apart : apart;
                most = apart > most ? apart : most;
            }
            return most;
        }
    }

    /** Finds the ROUND that a bench comes to, with room for one state to look for and one of each ROUND found. */
    private static final class Rounds {
        static final int LAST = 200;
        static final int STARTS = 9;
        private static final int WIDTH = LOOPS_MOST * Loop.TOLD;
        /** The row of the state that is looked for; the rows ahead of it are of ROUNDS that are unlike. */
        private static final int SOUGHT = STARTS;

        int begin = NONE;
        int length = NONE;
        final int[] tally = new int[5];
        private final long[] rows = new long[(STARTS + 1) * WIDTH];

        /**
         * Two benches that are alike go on from where they are; if there is a ROUND, both end in it.
         * What comes next hangs on what is alone, so a state that comes again makes the shortest round there is.
         */
        void find(Bench bench, Bench behind) {
            begin = NONE;
            length = lengthOf(bench);
            if (length == NONE) {
                return;
            }
            bench.copyFrom(behind);
            begin = beginOf(bench, behind);
            if (begin == NONE) {
                length = NONE;
            }
        }

        /** Looks for a state to come again, and for a later one in its place each time twice as much has gone by. */
        private int lengthOf(Bench bench) {
            int since = 0;
            int next = 1;
            keep(bench, SOUGHT);
            for (int t = 1; t <= 2 * LAST; t++) {
                bench.advance();
                if (isKept(bench, SOUGHT)) {
                    return t - since;
                }
                if (t == next) {
                    keep(bench, SOUGHT);
                    since = t;
                    next = Math.min(2 * t, LAST);
                }
            }
            return NONE;
        }

        /** One bench goes the length ahead; where the other one first is like it the ROUND begins. */
        private int beginOf(Bench bench, Bench behind) {
            for (int t = 0; t < length; t++) {
                bench.advance();
            }
            for (int t = 0; t + length <= LAST; t++) {
                keep(behind, SOUGHT);
                if (isKept(bench, SOUGHT)) {
                    return t;
                }
                bench.advance();
                behind.advance();
            }
            return NONE;
        }

        private void keep(Bench bench, int row) {
            for (int k = 0; k < bench.size; k++) {
                int from = row * WIDTH + k * Loop.TOLD;
                for (int what = 0; what < Loop.TOLD; what++) {
                    rows[from + what] = bench.loops[k].told(what);
                }
            }
        }

        private boolean isKept(Bench bench, int row) {
            for (int k = 0; k < bench.size; k++) {
                int from = row * WIDTH + k * Loop.TOLD;
                for (int what = 0; what < Loop.TOLD; what++) {
                    if (rows[from + what] != bench.loops[k].told(what)) {
                        return false;
                    }
                }
            }
            return true;
        }

        /** Takes a bench that is in the ROUND once round. */
        int sweepOf(Bench bench, int loop) {
            if (length == NONE) {
                return NONE;
            }
            int most = bench.loops[loop].plant.pv();
            int least = most;
            for (int t = 0; t < length; t++) {
                bench.advance();
                int pv = bench.loops[loop].plant.pv();
                most = Math.max(most, pv);
                least = Math.min(least, pv);
            }
            return most - least;
        }

        void clearTally() {
            for (int k = 0; k < tally.length; k++) {
                tally[k] = 0;
            }
        }

        /** Counts the ROUND that was found, with a bench that is in it. */
        void tallyFound(Bench bench) {
            if (length == NONE) {
                tally[2]++;
                return;
            }
            tally[4] = Math.max(tally[4], length);
            if (length == 1) {
                tally[0]++;
                return;
            }
            tally[1]++;
            if (!wasFound(bench) && tally[3] < STARTS) {
                keep(bench, tally[3]);
                tally[3]++;
            }
        }

        /** Takes a bench once round: whether something in its ROUND is in one that was found before. */
        private boolean wasFound(Bench bench) {
            for (int t = 0; t < length; t++) {
                for (int k = 0; k < tally[3]; k++) {
                    if (isKept(bench, k)) {
                        return true;
                    }
                }
                bench.advance();
            }
            return false;
        }
    }
}
