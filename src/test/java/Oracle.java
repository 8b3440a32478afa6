import java.util.ArrayList;
import java.util.Arrays;
import java.util.HashSet;
import java.util.List;
import java.util.NoSuchElementException;
import java.util.Set;
import java.util.TreeMap;

/**
 * The document once more, sentence by sentence and with no regard to speed or room, so that AlikeTest can
 * set the class beside it. It shares no code with the class.
 */
final class Oracle {
    private static final long BIG = 1_000_000_000_000L;
    private static final long YMAX = 2559744;

    static final class L implements Cloneable {
        int kind, gain, tau, late, load, low, high, on = -1;
        long y, z;
        List<Long> feeds = new ArrayList<>();
        int b = 256, c = 0, filter = 2, back = 64, stick = 0, hyst = 0;
        List<int[]> sets = new ArrayList<>();
        List<Integer> curve = new ArrayList<>();
        int mode = 0, set = 0, at = 0, stuck = 0;
        long sp = 0, out, pos, i = 0, f = 0, r = 0;
        boolean lost = false, trippedNow = false;
        List<Integer> trips = new ArrayList<>();
        long ku = -1, tu = -1;
        long d, h, middle, side, ups, age, since, top, bottom;
        long s;
        boolean ruled;

        L copy() {
            try {
                L o = (L) clone();
                o.feeds = new ArrayList<>(feeds);
                o.sets = new ArrayList<>();
                for (int[] set : sets) {
                    o.sets.add(set.clone());
                }
                o.curve = new ArrayList<>(curve);
                o.trips = new ArrayList<>(trips);
                return o;
            } catch (CloneNotSupportedException e) {
                throw new AssertionError(e);
            }
        }

        long pv() {
            return Math.floorDiv(y, 256L);
        }

        long p(int[] g) {
            return g[1] * (b * sp - 256 * pv());
        }

        long d(int[] g) {
            return g[3] * f;
        }

        int[] g() {
            return sets.get(set);
        }

        void balanced() {
            i = clip(65536 * out - p(g()) - d(g()), -BIG, BIG);
        }

        void regain(int[] to) {
            int[] was = g();
            i = clip(i + (p(was) - p(to)) + (d(was) - d(to)), -BIG, BIG);
        }

        String told() {
            String all = kind + " " + gain + " " + tau + " " + late + " " + load + " " + low + " " + high + " " + on
                    + " " + y + " " + z + feeds + b + " " + c + " " + filter + " " + back + " " + stick + " " + hyst;
            for (int[] g : sets) {
                all += Arrays.toString(g);
            }
            all += curve + " " + mode + " " + set + " " + at + " " + stuck + " " + sp + " " + out + " " + pos + " "
                    + i + " " + f + " " + r + " " + lost + trips + ku + " " + tu;
            if (mode == 3) {
                all += " " + d + " " + h + " " + middle + " " + side + " " + ups + " " + age + " " + since + " "
                        + top + " " + bottom;
            }
            return all;
        }
    }

    static final class State {
        List<L> loops = new ArrayList<>();
        List<int[]> events = new ArrayList<>();
        List<long[]> log = new ArrayList<>();
        int tick = 0, texts = 0;

        State copy() {
            State o = new State();
            for (L l : loops) {
                o.loops.add(l.copy());
            }
            o.events.addAll(events);
            o.log.addAll(log);
            o.tick = tick;
            o.texts = texts;
            return o;
        }

        void row(long loop, long what, long number) {
            log.add(new long[] {tick, loop, what, number});
            if (log.size() > 60) {
                log.remove(0);
            }
        }

        List<L> onIt(int k) {
            List<L> found = new ArrayList<>();
            for (L l : loops) {
                if (l.on == k) {
                    found.add(l);
                }
            }
            return found;
        }

        boolean following(int k) {
            L l = loops.get(k);
            boolean none = true;
            for (L o : onIt(k)) {
                none &= o.mode != 2;
            }
            return (l.mode == 1 || l.mode == 2) && !onIt(k).isEmpty() && none;
        }

        void tellMode(int k, int mode) {
            L l = loops.get(k);
            if (l.mode != mode) {
                l.mode = mode;
                if (mode == 1) {
                    l.balanced();
                }
                if (mode == 2) {
                    l.sp = loops.get(l.on).out;
                    l.balanced();
                }
                l.trips.clear();
                l.at = 0;
                l.stuck = 0;
                row(k, 1, mode);
            }
        }

        void tick(boolean withEvents) {
            if (withEvents) {
                List<int[]> waiting = new ArrayList<>();
                for (int[] e : events) {
                    if (e[0] > tick) {
                        waiting.add(e);
                        continue;
                    }
                    L l = loops.get(e[2]);
                    switch (e[1]) {
                        case 0 -> l.sp = l.mode == 2 ? l.sp : e[3];
                        case 1 -> l.load = e[3];
                        case 2 -> l.lost = true;
                        case 3 -> l.lost = false;
                        default -> tellMode(e[2], e[3]);
                    }
                }
                events = waiting;
            }
            long[] pvs = new long[loops.size()];
            for (int k = 0; k < loops.size(); k++) {
                L l = loops.get(k);
                pvs[k] = l.pv();
                one(k, l);
                trips(k, l);
                two(k, l);
                three(l);
                four(k, l);
                if (Math.abs(l.out - l.pos) > l.stick) {
                    l.pos = l.out;
                }
            }
            for (int k = 0; k < loops.size(); k++) {
                L l = loops.get(k);
                List<L> on = onIt(k);
                long feed = on.isEmpty() ? flow(l, l.pos) : pvs[loops.indexOf(on.get(0))];
                l.feeds.add(0, feed);
                l.feeds.remove(9);
                long u = l.feeds.get(l.late);
                long two = 1L << l.tau;
                if (l.kind == 0) {
                    l.y += Math.floorDiv(l.gain * u + 256L * l.load - l.y, two);
                } else if (l.kind == 1) {
                    l.y += Math.floorDiv(l.gain * u + 256L * l.load, two);
                } else {
                    l.z += Math.floorDiv(l.gain * u + 256L * l.load - l.z, two);
                    l.y += Math.floorDiv(l.z - l.y, two);
                }
                l.y = clip(l.y, -YMAX, YMAX);
            }
            tick++;
        }

        private void one(int k, L l) {
            l.trippedNow = false;
            l.ruled = false;
        }

        private void trips(int k, L l) {
            int cause = -1;
            if (l.mode != 0 && l.lost) {
                cause = 0;
            } else if (l.mode == 2 && loops.get(l.on).trippedNow) {
                cause = 1;
            } else if ((l.mode == 1 || l.mode == 2) && l.stuck == 50) {
                cause = 2;
            }
            if (cause < 0) {
                return;
            }
            l.mode = 0;
            l.at = 0;
            l.stuck = 0;
            l.trips = new ArrayList<>(List.of(cause));
            if (cause == 1) {
                l.trips.addAll(loops.get(l.on).trips);
            }
            l.trippedNow = true;
            row(k, 2, cause);
        }

        private void two(int k, L l) {
            if (l.mode == 2) {
                l.sp = loops.get(l.on).out;
            }
            int best = -1;
            for (int s = 0; s < l.sets.size(); s++) {
                if (l.sets.get(s)[0] <= l.pv()) {
                    best = s;
                }
            }
            if (best > l.set || best < l.set && l.pv() < l.g()[0] - l.hyst) {
                l.regain(l.sets.get(best));
                l.set = best;
                row(k, 0, best);
            }
        }

        private void three(L l) {
            long g = l.c * l.sp - 256 * l.pv();
            l.f += Math.floorDiv(g - l.r - l.f, 1L << l.filter);
            l.r = g;
            l.s = l.p(l.g()) + l.i + l.d(l.g());
        }

        private void four(int k, L l) {
            int at = 0;
            if (l.mode == 0) {
                l.balanced();
            } else if (l.mode == 3) {
                relay(k, l);
                l.balanced();
            } else if (following(k)) {
                l.out = clip(onIt(k).get(0).sp, l.low, l.high);
                l.balanced();
            } else {
                long v = Math.floorDiv(l.s, 65536L);
                l.ruled = true;
                l.out = clip(v, l.low, l.high);
                at = v > l.high ? 1 : v < l.low ? -1 : 0;
                long e = l.g()[2] * (l.sp - l.pv()) + 256L * l.back * (l.out - v);
                for (L o : onIt(k)) {
                    if (o.mode == 2 && (e > 0 && o.at == 1 || e < 0 && o.at == -1)) {
                        e = 0;
                    }
                }
                l.i = clip(l.i + e, -BIG, BIG);
            }
            l.at = at;
            l.stuck = at != 0 ? Math.min(50, l.stuck + 1) : 0;
        }

        private void relay(int k, L l) {
            boolean ended = false;
            if (l.y > l.top) {
                l.top = l.y;
            }
            if (l.y < l.bottom) {
                l.bottom = l.y;
            }
            l.age++;
            l.since++;
            if (l.side == -1 && l.sp - l.pv() > l.h) {
                l.side = 1;
                l.ups++;
                if (l.ups == 4) {
                    ended = true;
                    l.tu = l.since;
                    long swing = l.top - l.bottom;
                    l.ku = swing == 0 ? 9999 : Math.min(9999, Math.floorDiv(59244544L * l.d, 355 * swing));
                } else {
                    l.since = 0;
                    l.top = l.y;
                    l.bottom = l.y;
                }
            }
            if (l.side == 1 && l.sp - l.pv() < 0 - l.h) {
                l.side = -1;
            }
            if (!ended && l.age == 240) {
                ended = true;
            }
            if (ended) {
                l.mode = 0;
                l.out = l.middle;
                row(k, 3, l.ku);
            } else {
                l.out = l.middle + l.side * l.d;
            }
        }

        String told() {
            StringBuilder all = new StringBuilder();
            for (L l : loops) {
                all.append(l.told()).append('/');
            }
            return all.toString();
        }
    }

    static long clip(long v, long lo, long hi) {
        return v < lo ? lo : v > hi ? hi : v;
    }

    static long flow(L l, long p) {
        if (l.curve.isEmpty()) {
            return p;
        }
        int m = l.curve.size();
        long t = (p - l.low) * (m - 1);
        long k = Math.floorDiv(t, (long) (l.high - l.low));
        long q = Math.floorMod(t, (long) (l.high - l.low));
        long c = l.curve.get((int) k);
        return q == 0 ? c : c + Math.floorDiv((l.curve.get((int) k + 1) - c) * q, (long) (l.high - l.low));
    }

    private State st = new State();
    private State kept = null;
    private List<Integer> tape = new ArrayList<>();
    private int faulty = -1;

    private L at(int loop) {
        if (loop < 0 || loop >= st.loops.size()) {
            throw new IndexOutOfBoundsException();
        }
        return st.loops.get(loop);
    }

    private static void what(boolean good) {
        if (!good) {
            throw new NoSuchElementException();
        }
    }

    private static void arg(boolean good) {
        if (!good) {
            throw new IllegalArgumentException();
        }
    }

    private static void can(boolean good) {
        if (!good) {
            throw new IllegalStateException();
        }
    }

    public int feed(int a, int b, int c, int d, int e) {
        if (tape.size() + 20 > 400) {
            return -1;
        }
        for (int n : new int[] {a, b, c, d, e}) {
            tape.addAll(List.of(n >>> 24, n >>> 16 & 255, n >>> 8 & 255, n & 255));
        }
        return tape.size();
    }

    public boolean end(int n) {
        if (n < 0 || tape.size() < n) {
            return false;
        }
        tape = new ArrayList<>(tape.subList(0, n));
        return true;
    }

    public int bench() {
        StringBuilder text = new StringBuilder();
        for (int b : tape) {
            text.append((char) b);
        }
        tape.clear();
        State draft = st.copy();
        try {
            new Grammar(text.toString(), draft).text();
        } catch (Wrong w) {
            faulty = w.where;
            throw new IllegalArgumentException();
        }
        faulty = -1;
        if (st.texts == 12) {
            throw new UnsupportedOperationException();
        }
        st = draft;
        st.texts++;
        return st.texts;
    }

    public int fault() {
        return faulty;
    }

    public int loop(int loop, int what) {
        L l = at(loop);
        what(what >= 0 && what <= 20);
        long[] all = {l.kind, l.gain, l.tau, l.late, l.load, l.low, l.high, l.on, l.mode, l.sp, l.pv(), l.out, l.pos,
            l.set, l.sets.size(), l.at, l.stuck, l.lost ? 1 : 0, l.ku, l.tu, l.curve.size()};
        return (int) all[what];
    }

    public long inner(int loop, int what) {
        L l = at(loop);
        what(what >= 0 && what <= 5);
        long most = 0;
        for (int[] g : l.sets) {
            most = Math.max(most, g[1] * (l.b + 256L) * 9999 + g[3] * 2L * (l.c + 256) * 9999);
        }
        return new long[] {l.y, l.z, l.i, l.f, l.r, BIG + most}[what];
    }

    public int gain(int loop, int set, int what) {
        L l = at(loop);
        if (set < 0 || set >= l.sets.size()) {
            throw new IndexOutOfBoundsException();
        }
        what(what >= 0 && what <= 3);
        return l.sets.get(set)[what];
    }

    public int weight(int loop, int what) {
        L l = at(loop);
        what(what >= 0 && what <= 5);
        return new int[] {l.b, l.c, l.filter, l.back, l.stick, l.hyst}[what];
    }

    public int trip(int loop, int k) {
        L l = at(loop);
        return k >= 0 && k < l.trips.size() ? l.trips.get(k) : -1;
    }

    public int whose(int loop, int k) {
        L l = at(loop);
        if (k < 0 || k >= l.trips.size()) {
            return -1;
        }
        return k == 0 ? loop : k == 1 ? l.on : k == 2 ? at(l.on).on : at(at(l.on).on).on;
    }

    public int flow(int loop, int p) {
        L l = at(loop);
        arg(p >= l.low && p <= l.high);
        return (int) flow(l, p);
    }

    public int ticks(int n) {
        arg(n >= 1 && n <= 60);
        Set<L> tripped = new HashSet<>();
        for (int t = 0; t < n; t++) {
            st.tick(true);
            for (L l : st.loops) {
                if (l.trippedNow) {
                    tripped.add(l);
                }
            }
        }
        return tripped.size();
    }

    private void checkMode(L l, int mode) {
        arg(mode >= 0 && mode <= 2);
        can(mode != 2 || l.on >= 0);
    }

    public int mode(int loop, int mode) {
        L l = at(loop);
        checkMode(l, mode);
        int was = l.mode;
        st.tellMode(loop, mode);
        return was;
    }

    public int set(int loop, int sp) {
        L l = at(loop);
        arg(Math.abs((long) sp) <= 9999);
        can(l.mode != 2);
        int was = (int) l.sp;
        l.sp = sp;
        return was;
    }

    public int out(int loop, int v) {
        L l = at(loop);
        arg(v >= l.low && v <= l.high);
        can(l.mode == 0);
        int was = (int) l.out;
        l.out = v;
        l.balanced();
        return was;
    }

    public int gains(int loop, int kp, int ki, int kd) {
        L l = at(loop);
        for (int k : new int[] {kp, ki, kd}) {
            arg(k >= 0 && k <= 9999);
        }
        tellGains(l, kp, ki, kd);
        return l.set;
    }

    private static void tellGains(L l, long kp, long ki, long kd) {
        int[] now = {l.g()[0], (int) kp, (int) ki, (int) kd};
        l.regain(now);
        l.sets.set(l.set, now);
    }

    public int load(int loop, int n) {
        L l = at(loop);
        arg(n >= -999 && n <= 999);
        int was = l.load;
        l.load = n;
        return was;
    }

    public boolean lose(int loop, boolean is) {
        L l = at(loop);
        boolean changed = l.lost ^ is;
        l.lost = is;
        return changed;
    }

    public int relay(int loop, int d, int h) {
        L l = at(loop);
        arg(d >= 1 && d <= 999 && h >= 0 && h <= 99);
        can(l.mode == 0 && l.out - d >= l.low && l.out + d <= l.high);
        l.ku = -1;
        l.tu = -1;
        l.mode = 3;
        l.d = d;
        l.h = h;
        l.middle = l.out;
        l.side = l.sp >= l.pv() ? 1 : -1;
        l.ups = 0;
        l.age = 0;
        l.since = 0;
        l.top = l.y;
        l.bottom = l.y;
        return (int) l.side;
    }

    public int tune(int loop, int rule) {
        L l = at(loop);
        arg(rule >= 0 && rule <= 2);
        can(l.ku != -1);
        long kp;
        long ki;
        long kd;
        if (rule == 0) {
            kp = Math.floorDiv(3 * l.ku, 5L);
            ki = Math.floorDiv(512 * kp, l.tu);
            kd = Math.floorDiv(kp * l.tu, 8L);
        } else if (rule == 1) {
            kp = Math.floorDiv(9 * l.ku, 20L);
            ki = Math.floorDiv(1536 * kp, 5 * l.tu);
            kd = 0;
        } else {
            kp = Math.floorDiv(l.ku, 3L);
            ki = Math.floorDiv(512 * kp, l.tu);
            kd = Math.floorDiv(kp * l.tu, 3L);
        }
        tellGains(l, Math.min(9999, kp), Math.min(9999, ki), Math.min(9999, kd));
        return l.g()[1];
    }

    private static State after(State from, int n) {
        State s = from.copy();
        for (int t = 0; t < n; t++) {
            s.tick(false);
        }
        return s;
    }

    public int bump(int loop, int mode) {
        L l = at(loop);
        checkMode(l, mode);
        State s = st.copy();
        s.tellMode(loop, mode);
        return (int) Math.abs(after(s, 1).loops.get(loop).out - l.out);
    }

    /** M, N, and all that is told from AHEAD 0 on; null without a ROUND. */
    private static int[] roundFrom(State from, List<String> told, List<State> states) {
        State s = from.copy();
        TreeMap<String, Integer> seen = new TreeMap<>();
        for (int t = 0; t <= 200; t++) {
            String now = s.told();
            told.add(now);
            states.add(s.copy());
            Integer was = seen.putIfAbsent(now, t);
            if (was != null) {
                return new int[] {was, t - was};
            }
            s.tick(false);
        }
        return null;
    }

    public int round(boolean length) {
        int[] found = roundFrom(st, new ArrayList<>(), new ArrayList<>());
        return found == null ? -1 : found[length ? 1 : 0];
    }

    public int sweep(int loop) {
        at(loop);
        List<State> states = new ArrayList<>();
        int[] found = roundFrom(st, new ArrayList<>(), states);
        if (found == null) {
            return -1;
        }
        long most = Long.MIN_VALUE;
        long least = Long.MAX_VALUE;
        for (int t = found[0]; t <= found[0] + found[1]; t++) {
            most = Math.max(most, states.get(t).loops.get(loop).pv());
            least = Math.min(least, states.get(t).loops.get(loop).pv());
        }
        return (int) (most - least);
    }

    public int starts(int loop, int what) {
        at(loop);
        what(what >= 0 && what <= 4);
        int[] all = new int[5];
        List<Set<String>> unlike = new ArrayList<>();
        for (int k = -4; k <= 4; k++) {
            State s = st.copy();
            L l = s.loops.get(loop);
            l.y = clip(l.y + 256 * k, -YMAX, YMAX);
            List<String> told = new ArrayList<>();
            int[] found = roundFrom(s, told, new ArrayList<>());
            if (found == null) {
                all[2]++;
                continue;
            }
            all[4] = Math.max(all[4], found[1]);
            if (found[1] == 1) {
                all[0]++;
                continue;
            }
            all[1]++;
            Set<String> in = new HashSet<>(told.subList(found[0], found[0] + found[1]));
            boolean isNew = true;
            for (Set<String> other : unlike) {
                for (String one : in) {
                    isNew &= !other.contains(one);
                }
            }
            if (isNew) {
                unlike.add(in);
            }
        }
        all[3] = unlike.size();
        return all[what];
    }

    public int step(int loop, int size, int what) {
        L l = at(loop);
        what(what >= 0 && what <= 3);
        arg(size != 0 && size >= -999 && size <= 999);
        can(l.mode == 1);
        State s = st.copy();
        L m = s.loops.get(loop);
        m.sp = clip(m.sp + size, -9999, 9999);
        long beyond = 0;
        long sum = 0;
        int first = -1;
        boolean[] near = new boolean[101];
        for (int n = 1; n <= 100; n++) {
            s.tick(false);
            long over = size > 0 ? m.pv() - m.sp : m.sp - m.pv();
            beyond = Math.max(beyond, over);
            if (first < 0 && over >= 0) {
                first = n;
            }
            long apart = Math.abs(m.sp - m.pv());
            near[n] = apart <= 1 || 50 * apart <= Math.abs(size);
            sum += apart;
        }
        int from = 101;
        while (from > 1 && near[from - 1]) {
            from--;
        }
        return what == 0 ? (int) beyond : what == 1 ? first : what == 2 ? (from > 100 ? -1 : from) : (int) sum;
    }

    public int twin(int n) {
        arg(n >= 0 && n <= 60);
        for (L l : st.loops) {
            can(l.mode != 3);
        }
        int count = st.loops.size();
        double[][] v = new double[count][8];
        List<List<Double>> feeds = new ArrayList<>();
        for (int k = 0; k < count; k++) {
            L l = st.loops.get(k);
            v[k] = new double[] {l.y, l.z, l.i, l.f, l.r, l.sp, l.out, l.pos};
            List<Double> row = new ArrayList<>();
            for (long feed : l.feeds) {
                row.add((double) feed);
            }
            feeds.add(row);
        }
        double worst = 0;
        State s = st.copy();
        for (int t = 0; t < n; t++) {
            s.tick(false);
            double[] pvs = new double[count];
            for (int k = 0; k < count; k++) {
                pvs[k] = v[k][0] / 256;
                twinActs(v, k, pvs[k]);
            }
            for (int k = 0; k < count; k++) {
                twinMoves(v, k, pvs, feeds.get(k));
                worst = Math.max(worst, Math.abs(v[k][0] / 256 - s.loops.get(k).y / 256.0));
            }
        }
        return (int) Math.min(99999999.0, Math.floor(worst * 1000));
    }

    private void twinActs(double[][] v, int k, double pv) {
        L l = st.loops.get(k);
        double[] a = v[k];
        int[] gains = l.g();
        if (l.mode == 2) {
            a[5] = v[l.on][6];
        }
        double p = gains[1] * (l.b * a[5] - 256 * pv);
        double g = l.c * a[5] - 256 * pv;
        a[3] = a[3] + (g - a[4] - a[3]) / Math.pow(2, l.filter);
        a[4] = g;
        double d = gains[3] * a[3];
        if (l.mode == 0) {
            a[2] = 65536 * a[6] - p - d;
        } else if (st.following(k)) {
            a[6] = Math.max(l.low, Math.min(l.high, v[st.loops.indexOf(st.onIt(k).get(0))][5]));
            a[2] = 65536 * a[6] - p - d;
        } else {
            double w = (p + a[2] + d) / 65536;
            a[6] = Math.max(l.low, Math.min(l.high, w));
            a[2] = a[2] + (gains[2] * (a[5] - pv) + 256 * l.back * (a[6] - w));
        }
        a[2] = Math.max(-1e12, Math.min(1e12, a[2]));
        if (Math.abs(a[6] - a[7]) > l.stick) {
            a[7] = a[6];
        }
    }

    private void twinMoves(double[][] v, int k, double[] pvs, List<Double> feeds) {
        L l = st.loops.get(k);
        double[] a = v[k];
        double feed = a[7];
        if (!st.onIt(k).isEmpty()) {
            feed = pvs[st.loops.indexOf(st.onIt(k).get(0))];
        } else if (!l.curve.isEmpty()) {
            int m = l.curve.size();
            double w = (a[7] - l.low) * (m - 1) / (l.high - l.low);
            int i = (int) Math.min(m - 2, Math.floor(w));
            feed = l.curve.get(i) + (l.curve.get(i + 1) - l.curve.get(i)) * (w - i);
        }
        feeds.add(0, feed);
        feeds.remove(9);
        double u = feeds.get(l.late);
        double two = Math.pow(2, l.tau);
        if (l.kind == 0) {
            a[0] = a[0] + (l.gain * u + 256 * l.load - a[0]) / two;
        } else if (l.kind == 1) {
            a[0] = a[0] + (l.gain * u + 256 * l.load) / two;
        } else {
            a[1] = a[1] + (l.gain * u + 256 * l.load - a[1]) / two;
            a[0] = a[0] + (a[1] - a[0]) / two;
        }
        a[0] = Math.max(-YMAX, Math.min(YMAX, a[0]));
    }

    public int ahead(int loop, int n, boolean out) {
        at(loop);
        arg(n >= 0 && n <= 60);
        L l = after(st, n).loops.get(loop);
        return (int) (out ? l.out : l.pv());
    }

    public long peak(int loop, int n) {
        at(loop);
        arg(n >= 0 && n <= 60);
        long most = 0;
        for (int t = 1; t <= n; t++) {
            L l = after(st, t).loops.get(loop);
            most = l.ruled ? Math.max(most, Math.abs(l.s)) : most;
        }
        return most;
    }

    public int hunts(int loop, int n) {
        at(loop);
        arg(n >= 0 && n <= 60);
        int many = 0;
        for (int t = 1; t <= n; t++) {
            L was = after(st, t - 1).loops.get(loop);
            L is = after(st, t).loops.get(loop);
            many += was.pv() >= was.sp != is.pv() >= is.sp ? 1 : 0;
        }
        return many;
    }

    public int worst(int n) {
        arg(n >= 0 && n <= 60);
        State s = after(st, n);
        int worst = -1;
        for (int k = s.loops.size() - 1; k >= 0; k--) {
            L l = s.loops.get(k);
            L w = worst < 0 ? l : s.loops.get(worst);
            worst = Math.abs(l.pv() - l.sp) >= Math.abs(w.pv() - w.sp) ? k : worst;
        }
        return worst;
    }

    public int which(int what) {
        what(what >= 0 && what <= 8);
        int bits = 0;
        for (int k = 0; k < st.loops.size(); k++) {
            L l = st.loops.get(k);
            boolean[] is = {l.mode == 0, l.mode == 1, l.mode == 2, l.mode == 3, l.lost, l.at == 1, l.at == -1,
                !l.trips.isEmpty(), st.following(k)};
            bits += is[what] ? Math.pow(2, k) : 0;
        }
        return bits;
    }

    public int event(int k, int what) {
        if (k < 0 || k >= st.events.size()) {
            throw new IndexOutOfBoundsException();
        }
        what(what >= 0 && what <= 3);
        return st.events.get(k)[what];
    }

    public int log(int ago, int what) {
        what(what >= 0 && what <= 3);
        int k = st.log.size() - 1 - ago;
        return ago < 0 || k < 0 ? -1 : (int) st.log.get(k)[what];
    }

    public void image() {
        kept = st.copy();
    }

    public boolean back() {
        if (kept == null) {
            return false;
        }
        st = kept.copy();
        return true;
    }

    public int count(int what) {
        return switch (what) {
            case 0 -> st.loops.size();
            case 1 -> st.texts;
            case 2 -> st.tick;
            case 3 -> st.events.size();
            case 4 -> st.log.size();
            default -> -1;
        };
    }

    @SuppressWarnings("serial")
    static final class Wrong extends Exception {
        final int where;

        Wrong(int where) {
            this.where = where;
        }
    }

    /** Cuts the text into things first, then goes through them. */
    static final class Grammar {
        private final String text;
        private final State st;
        private final List<String> things = new ArrayList<>();
        private final List<Integer> places = new ArrayList<>();
        private int next = 0;

        Grammar(String text, State st) {
            this.text = text;
            this.st = st;
            java.util.regex.Matcher m = java.util.regex.Pattern.compile("[a-z]+|[0-9]+|-|[^ ]",
                    java.util.regex.Pattern.DOTALL).matcher(text);
            while (m.find()) {
                things.add(m.group());
                places.add(m.start());
            }
        }

        private String see() {
            return next < things.size() ? things.get(next) : "";
        }

        private int place() {
            return next < things.size() ? places.get(next) : text.length();
        }

        private boolean word(String... words) {
            return Arrays.asList(words).contains(see());
        }

        private int oneOf(String... words) throws Wrong {
            int k = Arrays.asList(words).indexOf(see());
            if (k < 0) {
                throw new Wrong(place());
            }
            next++;
            return k;
        }

        private boolean maybe(String word) {
            boolean is = word(word);
            next += is ? 1 : 0;
            return is;
        }

        private boolean isNumber() {
            return !see().isEmpty() && Character.isDigit(see().charAt(0)) && see().charAt(0) < 128;
        }

        private int n(int least, int most) throws Wrong {
            int at = place();
            if (!isNumber()) {
                throw new Wrong(at);
            }
            String digits = see();
            next++;
            if (digits.length() > 4 || Integer.parseInt(digits) < least || Integer.parseInt(digits) > most) {
                throw new Wrong(at);
            }
            return Integer.parseInt(digits);
        }

        private int s(int least, int most) throws Wrong {
            if (!word("-")) {
                return n(least, most);
            }
            int at = place();
            next++;
            if (!isNumber() || place() != at + 1) {
                throw new Wrong(at + 1);
            }
            int number;
            try {
                number = -n(0, 9999);
            } catch (Wrong w) {
                throw new Wrong(at);
            }
            if (number < least || number > most) {
                throw new Wrong(at);
            }
            return number;
        }

        private L l() throws Wrong {
            return st.loops.get(n(0, st.loops.size() - 1));
        }

        void text() throws Wrong {
            if (things.isEmpty()) {
                return;
            }
            for (int lines = 1;; lines++) {
                if (lines > 14) {
                    throw new Wrong(place());
                }
                int first = place();
                switch (oneOf("loop", "law", "gains", "curve", "at")) {
                    case 0 -> loop(first);
                    case 1 -> law();
                    case 2 -> gains(first);
                    case 3 -> curve();
                    default -> event(first);
                }
                if (next == things.size()) {
                    return;
                }
                oneOf(";");
            }
        }

        private void loop(int first) throws Wrong {
            if (st.loops.size() == 4) {
                throw new Wrong(first);
            }
            L l = new L();
            l.kind = oneOf("lag", "level", "slow");
            oneOf("gain");
            l.gain = n(0, 999);
            oneOf("tau");
            l.tau = n(0, 8);
            oneOf("low");
            l.low = s(-9999, 9999);
            oneOf("high");
            l.high = s(l.low + 1, 9999);
            l.late = maybe("late") ? n(0, 8) : 0;
            l.on = maybe("on") ? n(0, st.loops.size() - 1) : -1;
            for (int k = 0; k < 9; k++) {
                l.feeds.add(0L);
            }
            l.sets.add(new int[] {-9999, 256, 64, 0});
            l.out = clip(0, l.low, l.high);
            l.pos = l.out;
            st.loops.add(l);
        }

        private void law() throws Wrong {
            L l = l();
            l.b = maybe("b") ? n(0, 256) : l.b;
            l.c = maybe("c") ? n(0, 256) : l.c;
            l.filter = maybe("filter") ? n(0, 8) : l.filter;
            l.back = maybe("back") ? n(0, 256) : l.back;
            l.stick = maybe("stick") ? n(0, 99) : l.stick;
            l.hyst = maybe("hyst") ? n(0, 99) : l.hyst;
        }

        private void gains(int first) throws Wrong {
            L l = l();
            int[] g = l.sets.get(0);
            if (maybe("from")) {
                if (l.sets.size() == 3) {
                    throw new Wrong(first);
                }
                g = new int[] {s(l.sets.get(l.sets.size() - 1)[0] + 1, 9999), 0, 0, 0};
                l.sets.add(g);
            }
            oneOf("kp");
            g[1] = n(0, 9999);
            oneOf("ki");
            g[2] = n(0, 9999);
            oneOf("kd");
            g[3] = n(0, 9999);
        }

        private void curve() throws Wrong {
            L l = l();
            l.curve = new ArrayList<>();
            l.curve.add(n(0, 999));
            l.curve.add(n(0, 999));
            while (isNumber()) {
                if (l.curve.size() == 8) {
                    throw new Wrong(place());
                }
                l.curve.add(n(0, 999));
            }
        }

        private void event(int first) throws Wrong {
            if (st.events.size() == 8) {
                throw new Wrong(first);
            }
            int time = n(st.tick, 9999);
            int what = oneOf("set", "load", "lost", "found", "mode");
            int loop = n(0, st.loops.size() - 1);
            int number = 0;
            if (what == 0) {
                number = s(-9999, 9999);
            } else if (what == 1) {
                number = s(-999, 999);
            } else if (what == 4) {
                int at = place();
                number = oneOf("manual", "auto", "cascade");
                if (number == 2 && st.loops.get(loop).on < 0) {
                    throw new Wrong(at);
                }
            }
            st.events.add(new int[] {time, what, loop, number});
        }
    }
}
