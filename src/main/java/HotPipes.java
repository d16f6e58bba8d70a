import java.util.Arrays;

/**
 * A run of hot pipe between two anchors: its growth, its loops, its rests and springs, its joined
 * cases, its cycles, and the rest that must be missing.
 */
public final class HotPipes {
    public static final int BAD = -1, FULL = -2, FINDING = -3, STATE = -4, NONE = -9;

    private static final int NOTHING = 1, BEYOND = 2, UNLIKE = 3, NOUGHT = 4, SIZE = 5;
    private static final int STUFFS = 4, STEPS = 16, TOP_WEIGHT = 50, FIRST_WEIGHT = 10;
    private static final int WAYS = 6, AXES = 3, Z = 2, TOP_LEGS = 12, TOP_UNITS = 20;
    private static final int TOP_THICKNESS = 100, TOP_LOOP = 20, LEAST_LOOPED = 3;
    private static final int KINDS = 4, REST = 0, HANGER = 1, SPRING = 2, GUIDE = 3;
    private static final int TOP_RESTS = 12, TOP_RATE = 500, TOP_RATES = 12, TOP_READING = 100000;
    private static final int CASES = 8, TOP_AMOUNT = 10000, TOP_FACTOR = 9;
    private static final int TOP_LINES = 30, TOP_TIMES = 100000, TOP_RANGE = 60, MOST_BORNE = 65536;
    private static final int GONE = -1;

    private final Stuffs stuffs;
    private final Run run;
    private final Rests rests;
    private final Rates rates;
    private final Cases cases;
    private final Cycles cycles;
    private final Fraction fraction;
    private final int[] found;
    private int lastFound;
    private int lastAsked;

    public HotPipes() {
        stuffs = new Stuffs();
        run = new Run(stuffs);
        rests = new Rests(run);
        rates = new Rates();
        cases = new Cases();
        cycles = new Cycles();
        fraction = new Fraction();
        found = new int[SIZE + 1];
        lastFound = 0;
        lastAsked = 0;
    }

    // ---- 1 stuffs, the run

    public int stuff(int s, int n) {
        if (!isStuff(s) || n > STEPS) {
            return BAD;
        }
        if (n < 0) {
            return refuse(SIZE);
        }
        stuffs.begin(s, n);
        return n;
    }

    public int lay(int s, int i, int v) {
        int refusal = refusalOfStuff(s);
        if (refusal != 0) {
            return refusal;
        }
        if (!stuffs.hasBytes(s, i, 1)) {
            return refuse(BEYOND);
        }
        return stuffs.replace(s, i, (byte) v) + 1000;
    }

    public int tear(int s) {
        int refusal = refusalOfStuff(s);
        if (refusal != 0) {
            return refusal;
        }
        stuffs.end(s);
        return 1;
    }

    public int copy(int s, int i, int to, int j, int n) {
        if (!isStuff(s) || !isStuff(to)) {
            return BAD;
        }
        if (!stuffs.isThere(s) || !stuffs.isThere(to)) {
            return refuse(NOTHING);
        }
        if (!stuffs.hasBytes(s, i, n) || !stuffs.hasBytes(to, j, n)) {
            return refuse(BEYOND);
        }
        stuffs.transfer(s, i, to, j, n);
        return 1;
    }

    public int weigh(int s, int w) {
        if (!isStuff(s) || !isWithin(w, 1, TOP_WEIGHT)) {
            return BAD;
        }
        return stuffs.reweigh(s, w);
    }

    public int mean(int s) {
        int refusal = refusalOfStuff(s);
        if (refusal != 0) {
            return refusal;
        }
        int size = stuffs.sizeOf(s);
        if (size <= 0) {
            return refuse(NOUGHT);
        }
        return stuffs.sumOf(s) / size;
    }

    public int leg(int way, int units, int stuff) {
        if (!isWay(way) || !isWithin(units, 1, TOP_UNITS) || !isStuff(stuff)) {
            return BAD;
        }
        if (run.legs() >= TOP_LEGS) {
            return FULL;
        }
        run.append(way, units, stuff);
        return run.legs();
    }

    public int cut() {
        if (run.legs() == 0) {
            return STATE;
        }
        run.removeLast();
        return run.legs();
    }

    public int where(int place, int what) {
        if (!isWithin(place, 0, run.length()) || !isAxis(what)) {
            return BAD;
        }
        lastAsked = run.position(place, what);
        return 1;
    }

    public int grown(int step, int what) {
        if (!isStep(step) || !isAxis(what)) {
            return BAD;
        }
        lastAsked = run.growth(run.length(), step, what);
        return 1;
    }

    public int move(int place, int step) {
        if (!isWithin(place, 0, run.length()) || !isStep(step)) {
            return BAD;
        }
        lastAsked = run.growth(place, step, Z);
        return 1;
    }

    public int soft(int step, int d) {
        if (!isStep(step) || !isThickness(d)) {
            return BAD;
        }
        if (run.legs() == 0) {
            return STATE;
        }
        lastAsked = run.spare(step, d, 0);
        return lastAsked >= 0 ? 1 : 0;
    }

    public int loop(int leg, int way, int step, int d) {
        if (!isWithin(leg, 0, run.legs() - 1) || !isWay(way) || !isStep(step) || !isThickness(d)) {
            return BAD;
        }
        if (!run.isAcross(leg, way)) {
            return BAD;
        }
        if (run.unitsOf(leg) < LEAST_LOOPED) {
            return STATE;
        }
        return run.leastLoop(leg, way, run.firstSoft(step, d));
    }

    public int bestLoop(int step, int d) {
        if (!isStep(step) || !isThickness(d)) {
            return BAD;
        }
        if (run.legs() == 0) {
            return STATE;
        }
        int firstSoft = run.firstSoft(step, d);
        int bestLeg = NONE;
        int bestWay = 0;
        int bestOut = TOP_LOOP + 1;
        for (int leg = 0; leg < run.legs(); leg++) {
            for (int way = 0; way < WAYS; way++) {
                int out = run.leastLoop(leg, way, firstSoft);
                if (out != NONE && out < bestOut) {
                    bestLeg = leg;
                    bestWay = way;
                    bestOut = out;
                }
            }
        }
        if (bestLeg != NONE) {
            lastAsked = bestOut + 100 * bestWay;
        }
        return bestLeg;
    }

    // ---- 2 rests

    public int rest(int kind, int place, int rate) {
        if (!isKind(kind) || !isWithin(place, 1, run.length() - 1) || rests.isTaken(place)) {
            return BAD;
        }
        if (kind == SPRING && !isRate(rate)) {
            return BAD;
        }
        if (rests.made() >= TOP_RESTS) {
            return FULL;
        }
        return rests.put(kind, place, kind == SPRING ? rate : NONE);
    }

    public int drop(int rest) {
        int refusal = refusalOfRest(rest, true);
        if (refusal != 0) {
            return refusal;
        }
        rests.remove(rest);
        return 1;
    }

    public int told(int rest, int what) {
        int refusal = refusalOfRest(rest, isWithin(what, 0, 3));
        if (refusal != 0) {
            return refusal;
        }
        return rests.tell(rest, what);
    }

    public int is(int rest, int kind) {
        int refusal = refusalOfRest(rest, isKind(kind));
        if (refusal != 0) {
            return refusal;
        }
        return rests.isOfKind(rest, kind) ? 1 : 0;
    }

    public int lifts(int rest, int step) {
        int refusal = refusalOfRest(rest, isStep(step));
        if (refusal != 0) {
            return refusal;
        }
        return rests.isLifted(rest, step) ? 1 : 0;
    }

    public int load(int rest, int step) {
        int refusal = refusalOfRest(rest, isStep(step));
        if (refusal != 0) {
            return refusal;
        }
        rests.noteBearing(step);
        fraction.put(rests.twiceLoad(rest, NONE), 2);
        return 1;
    }

    public int change(int rest, int step) {
        int refusal = refusalOfSpring(rest, step);
        if (refusal != 0) {
            return refusal;
        }
        fraction.put((long) rests.rateOf(rest) * rests.travel(rest, step), 1000);
        return 1;
    }

    public int firm(int rest, int step) {
        int refusal = refusalOfSpring(rest, step);
        if (refusal != 0) {
            return refusal;
        }
        rests.noteBearing(step);
        long twiceLoad = rests.twiceLoad(rest, NONE);
        if (twiceLoad == 0) {
            return refuse(NOUGHT);
        }
        fraction.put(2L * rests.rateOf(rest) * rests.travel(rest, step), 1000L * twiceLoad);
        return 1;
    }

    public int list(int rate) {
        if (!isRate(rate)) {
            return BAD;
        }
        if (rates.size() >= TOP_RATES) {
            return FULL;
        }
        rates.append(rate);
        return rates.size();
    }

    public int choose(int rest, int step) {
        int refusal = refusalOfSpring(rest, step);
        if (refusal != 0) {
            return refusal;
        }
        rests.noteBearing(step);
        int twiceLoad = rests.twiceLoad(rest, NONE);
        if (twiceLoad == 0) {
            return refuse(NOUGHT);
        }
        int chosen = rates.greatestFirmEnough(rests.travel(rest, step), twiceLoad);
        if (chosen != NONE) {
            rests.setRate(rest, chosen);
        }
        return chosen;
    }

    // ---- 3 cases, cycles, what is missing

    public int amount(int c, int v, int low, int high) {
        if (!isCase(c) || !isWithin(v, -TOP_AMOUNT, TOP_AMOUNT)) {
            return BAD;
        }
        if (!isWithin(low, -TOP_FACTOR, high) || high > TOP_FACTOR) {
            return BAD;
        }
        cases.put(c, v, low, high);
        return 1;
    }

    public int bar(int c, int d, boolean is) {
        if (!isCase(c) || !isCase(d) || c == d) {
            return BAD;
        }
        return cases.setBarred(c, d, is) ? 1 : 0;
    }

    public int worst() {
        lastAsked = cases.worstSet();
        return cases.joined(lastAsked);
    }

    public int cycle(int n, int range) {
        if (!isWithin(n, 1, TOP_TIMES) || !isWithin(range, 1, TOP_RANGE)) {
            return BAD;
        }
        if (cycles.lines() >= TOP_LINES) {
            return FULL;
        }
        cycles.append(n, range);
        return cycles.lines();
    }

    public int used() {
        long parts = cycles.partsUsed();
        fraction.put(parts, MOST_BORNE);
        return parts > MOST_BORNE ? 1 : 0;
    }

    public int read(int rest, int v) {
        int refusal = refusalOfRest(rest, v == NONE || isWithin(v, 0, TOP_READING));
        if (refusal != 0) {
            return refusal;
        }
        return rests.replaceReading(rest, v);
    }

    public int missing(int step) {
        if (!isStep(step)) {
            return BAD;
        }
        if (!rests.hasReading()) {
            return STATE;
        }
        rests.noteBearing(step);
        int best = NONE;
        int least = rests.differenceWithout(NONE);
        for (int rest = 0; rest < rests.made(); rest++) {
            if (rests.isBearing(rest)) {
                int difference = rests.differenceWithout(rest);
                if (difference < least) {
                    best = rest;
                    least = difference;
                }
            }
        }
        lastAsked = least;
        return best;
    }

    // ---- 4 what is told

    public int asked() {
        return lastAsked;
    }

    public long upper() {
        return fraction.above;
    }

    public long lower() {
        return fraction.below;
    }

    public int count(int what) {
        switch (what) {
            case 0:
                return run.legs();
            case 1:
                return run.length();
            case 2:
                return rests.made();
            case 3:
                return rests.kept();
            case 4:
                return rates.size();
            case 5:
                return cycles.lines();
            default:
                return BAD;
        }
    }

    public int finding() {
        return lastFound;
    }

    public int findings(int f) {
        return isWithin(f, NOTHING, SIZE) ? found[f] : BAD;
    }

    public long digest() {
        long h = 17;
        for (int what = 0; what <= 5; what++) {
            h = 31 * h + count(what);
        }
        h = run.mixInto(h);
        h = rests.mixInto(h);
        h = cases.mixInto(h);
        return stuffs.mixInto(h);
    }

    // ---- refusals

    private int refuse(int which) {
        if (isWithin(which, NOTHING, SIZE)) {
            found[which]++;
            lastFound = which;
        }
        return FINDING;
    }

    /** What a call that needs a STUFF is refused with; 0: it is not refused. */
    private int refusalOfStuff(int s) {
        if (!isStuff(s)) {
            return BAD;
        }
        return stuffs.isThere(s) ? 0 : refuse(NOTHING);
    }

    /** The same of a REST; BAD comes ahead of NOTHING, so it must know of the other arguments. */
    private int refusalOfRest(int rest, boolean othersAreGood) {
        if (!isWithin(rest, 0, rests.made() - 1) || !othersAreGood) {
            return BAD;
        }
        return rests.isGone(rest) ? refuse(NOTHING) : 0;
    }

    /** The same of a SPRING at a STEP. */
    private int refusalOfSpring(int rest, int step) {
        int refusal = refusalOfRest(rest, isStep(step));
        if (refusal != 0) {
            return refusal;
        }
        return rests.isOfKind(rest, SPRING) ? 0 : refuse(UNLIKE);
    }

    private static boolean isWithin(int v, int low, int high) {
        return v >= low && v <= high;
    }

    private static boolean isStuff(int s) {
        return isWithin(s, 0, STUFFS - 1);
    }

    private static boolean isStep(int step) {
        return isWithin(step, 0, STEPS - 1);
    }

    private static boolean isWay(int way) {
        return isWithin(way, 0, WAYS - 1);
    }

    private static boolean isAxis(int what) {
        return isWithin(what, 0, AXES - 1);
    }

    private static boolean isThickness(int d) {
        return isWithin(d, 1, TOP_THICKNESS);
    }

    private static boolean isKind(int kind) {
        return isWithin(kind, 0, KINDS - 1);
    }

    private static boolean isRate(int rate) {
        return isWithin(rate, 1, TOP_RATE);
    }

    private static boolean isCase(int c) {
        return isWithin(c, 0, CASES - 1);
    }

    /** A fraction in lowest terms, neither number below 0. */
    private static final class Fraction {
        private long above = 0;
        private long below = 1;

        void put(long upper, long lower) {
            long shared = greatestShared(upper, lower);
            if (shared > 0) {
                above = upper / shared;
                below = lower / shared;
            }
        }

        private static long greatestShared(long a, long b) {
            // Each turn halves the greater number at least every second time: 200 is above what 63 bits need.
            for (int turn = 0; turn < 200 && b != 0; turn++) {
                long left = a % b;
                a = b;
                b = left;
            }
            return a;
        }
    }

    /** Four rows of GROWTH by STEP, side by side in one row of bytes, and the WEIGHTS. */
    private static final class Stuffs {
        private final byte[] bytes = new byte[STUFFS * STEPS];
        private final int[] sizes = new int[STUFFS];
        private final int[] weights = new int[STUFFS];

        Stuffs() {
            Arrays.fill(sizes, GONE);
            Arrays.fill(weights, FIRST_WEIGHT);
        }

        boolean isThere(int s) {
            return sizes[s] != GONE;
        }

        boolean hasBytes(int s, int from, int n) {
            return from >= 0 && n >= 0 && from <= sizes[s] && n <= sizes[s] - from;
        }

        int sizeOf(int s) {
            return sizes[s];
        }

        int weightOf(int s) {
            return weights[s];
        }

        int growthAt(int s, int step) {
            return step < sizes[s] ? bytes[s * STEPS + step] : 0;
        }

        void begin(int s, int n) {
            for (int i = 0; i < STEPS; i++) {
                bytes[s * STEPS + i] = 0;
            }
            sizes[s] = n;
        }

        void end(int s) {
            sizes[s] = GONE;
        }

        int replace(int s, int i, byte v) {
            int was = bytes[s * STEPS + i];
            bytes[s * STEPS + i] = v;
            return was;
        }

        void transfer(int s, int i, int to, int j, int n) {
            System.arraycopy(bytes, s * STEPS + i, bytes, to * STEPS + j, n);
        }

        int reweigh(int s, int w) {
            int was = weights[s];
            weights[s] = w;
            return was;
        }

        int sumOf(int s) {
            int sum = 0;
            for (int i = 0; i < sizes[s]; i++) {
                sum += bytes[s * STEPS + i];
            }
            return sum;
        }

        long mixInto(long h) {
            for (int s = 0; s < STUFFS; s++) {
                h = 31 * h + weights[s];
                h = 31 * h + sizes[s];
                for (int i = 0; i < sizes[s]; i++) {
                    h = 31 * h + bytes[s * STEPS + i];
                }
            }
            return h;
        }
    }

    /** THE RUN: its LEGS, and all that is measured along it. */
    private static final class Run {
        private final Stuffs stuffs;
        private final int[] ways = new int[TOP_LEGS];
        private final int[] units = new int[TOP_LEGS];
        private final int[] stuffOf = new int[TOP_LEGS];
        private final int[] point = new int[AXES];
        private int legs = 0;
        private int length = 0;

        Run(Stuffs stuffs) {
            this.stuffs = stuffs;
        }

        int legs() {
            return legs;
        }

        int length() {
            return length;
        }

        int unitsOf(int leg) {
            return units[leg];
        }

        boolean isAcross(int leg, int way) {
            return axisOf(way) != axisOf(ways[leg]);
        }

        void append(int way, int n, int stuff) {
            ways[legs] = way;
            units[legs] = n;
            stuffOf[legs] = stuff;
            legs++;
            length += n;
        }

        void removeLast() {
            legs--;
            length -= units[legs];
        }

        int position(int place, int axis) {
            int sum = 0;
            int start = 0;
            for (int leg = 0; leg < legs; leg++) {
                if (axisOf(ways[leg]) == axis) {
                    sum += signOf(ways[leg]) * unitsBetween(leg, start, 0, place);
                }
                start += units[leg];
            }
            return sum;
        }

        /** The sum of GROWTH along an axis over all units ahead of a PLACE. */
        int growth(int place, int step, int axis) {
            int sum = 0;
            int start = 0;
            for (int leg = 0; leg < legs; leg++) {
                if (axisOf(ways[leg]) == axis) {
                    int each = signOf(ways[leg]) * stuffs.growthAt(stuffOf[leg], step);
                    sum += each * unitsBetween(leg, start, 0, place);
                }
                start += units[leg];
            }
            return sum;
        }

        int weight(int from, int to) {
            int sum = 0;
            int start = 0;
            for (int leg = 0; leg < legs; leg++) {
                sum += stuffs.weightOf(stuffOf[leg]) * unitsBetween(leg, start, from, to);
                start += units[leg];
            }
            return sum;
        }

        /** How many units of a LEG that begins at the PLACE start are between two PLACES. */
        private int unitsBetween(int leg, int start, int from, int to) {
            return Math.max(0, Math.min(start + units[leg], to) - Math.max(start, from));
        }

        /** What is let less what is there, if THE RUN had so many units more that cancel out. */
        int spare(int step, int thickness, int more) {
            long grownFar = 0;
            long apart = 0;
            for (int axis = 0; axis < AXES; axis++) {
                long grown = growth(length, step, axis);
                long end = position(length, axis);
                grownFar += grown * grown;
                apart += end * end;
            }
            int slack = length + more - root(apart);
            return 30 * slack * slack - thickness * root(grownFar);
        }

        /** The least d with which a LOOP makes THE RUN SOFT: a longer one does, too. */
        int firstSoft(int step, int thickness) {
            for (int out = 1; out <= TOP_LOOP; out++) {
                // The two sides of a LOOP are of one STUFF: GROWN and the ends stay.
                if (spare(step, thickness, 2 * out) >= 0) {
                    return out;
                }
            }
            return TOP_LOOP + 1;
        }

        /** The least FREE d from firstSoft on; NONE also for a LEG or WAY that can have no LOOP. */
        int leastLoop(int leg, int way, int firstSoft) {
            if (units[leg] < LEAST_LOOPED || !isAcross(leg, way) || firstSoft > TOP_LOOP) {
                return NONE;
            }
            int met = loopsThatMeet(leg, way);
            for (int out = firstSoft; out <= TOP_LOOP; out++) {
                if ((met & (1 << out)) == 0) {
                    return out;
                }
            }
            return NONE;
        }

        /** Bit d is set, if a LOOP of d units would meet a whole point of THE RUN. */
        private int loopsThatMeet(int leg, int way) {
            startAtFoot(leg);
            int met = loopsThatMeetPoint(leg, way);
            for (int i = 0; i < legs; i++) {
                int axis = axisOf(ways[i]);
                for (int u = 0; u < units[i]; u++) {
                    point[axis] += signOf(ways[i]);
                    met |= loopsThatMeetPoint(leg, way);
                }
            }
            return met;
        }

        /** Sets point to the begin of THE RUN, as seen from where a LOOP would leave the LEG. */
        private void startAtFoot(int leg) {
            int foot = units[leg] / 3;
            for (int i = 0; i < leg; i++) {
                foot += units[i];
            }
            for (int axis = 0; axis < AXES; axis++) {
                point[axis] = -position(foot, axis);
            }
        }

        private int loopsThatMeetPoint(int leg, int way) {
            int along = axisOf(ways[leg]);
            int across = axisOf(way);
            int side = AXES - along - across;
            int width = units[leg] / 3;
            int ahead = signOf(ways[leg]) * point[along];
            int out = signOf(way) * point[across];
            if (point[side] != 0 || ahead < 0 || ahead > width || out < 1 || out > TOP_LOOP) {
                return 0;
            }
            // A point beside the foot is in the way of each LOOP that goes so far; one above the
            // middle only of the LOOP that turns just there.
            return ahead == 0 || ahead == width ? -1 << out : 1 << out;
        }

        long mixInto(long h) {
            for (int leg = 0; leg < legs; leg++) {
                h = 31 * h + ways[leg];
                h = 31 * h + units[leg];
                h = 31 * h + stuffOf[leg];
            }
            return h;
        }

        private static int axisOf(int way) {
            return way >> 1;
        }

        private static int signOf(int way) {
            return (way & 1) == 0 ? 1 : -1;
        }

        /** The greatest whole number of which the square is not above n. */
        private static int root(long n) {
            long r = 0;
            for (int bit = 30; bit >= 0; bit--) {
                long tried = r + (1L << bit);
                if (tried * tried <= n) {
                    r = tried;
                }
            }
            return (int) r;
        }
    }

    /** All RESTS ever made, what they bear at the STEP last noted, and what was READ of them. */
    private static final class Rests {
        private final Run run;
        private final int[] kinds = new int[TOP_RESTS];
        private final int[] places = new int[TOP_RESTS];
        private final int[] rates = new int[TOP_RESTS];
        private final int[] readings = new int[TOP_RESTS];
        private final boolean[] bearing = new boolean[TOP_RESTS];
        private int made = 0;

        Rests(Run run) {
            this.run = run;
        }

        int made() {
            return made;
        }

        int kept() {
            int n = 0;
            for (int r = 0; r < made; r++) {
                n += isGone(r) ? 0 : 1;
            }
            return n;
        }

        boolean isGone(int r) {
            return kinds[r] == GONE;
        }

        boolean isTaken(int place) {
            for (int r = 0; r < made; r++) {
                if (!isGone(r) && places[r] == place) {
                    return true;
                }
            }
            return false;
        }

        int put(int kind, int place, int rate) {
            kinds[made] = kind;
            places[made] = place;
            rates[made] = rate;
            readings[made] = NONE;
            made++;
            return made - 1;
        }

        void remove(int r) {
            kinds[r] = GONE;
        }

        int tell(int r, int what) {
            switch (what) {
                case 0:
                    return kinds[r];
                case 1:
                    return places[r];
                case 2:
                    return rates[r];
                default:
                    return isPresent(r) ? 1 : 0;
            }
        }

        private boolean isPresent(int r) {
            return !isGone(r) && places[r] < run.length();
        }

        boolean isOfKind(int r, int kind) {
            int own = kinds[r];
            return own == kind || kind == REST || (kind == HANGER && own == SPRING);
        }

        /** One beyond the end of the run has no PLACE on it that could MOVE away. */
        boolean isLifted(int r, int step) {
            boolean canLift = isPresent(r) && (kinds[r] == REST || kinds[r] == HANGER);
            return canLift && run.growth(places[r], step, Z) > 0;
        }

        int rateOf(int r) {
            return rates[r];
        }

        void setRate(int r, int rate) {
            rates[r] = rate;
        }

        /** MOVE of the PLACE of a REST, without sign. */
        int travel(int r, int step) {
            return Math.abs(run.growth(places[r], step, Z));
        }

        /** To be called ahead of isBearing, twiceLoad and differenceWithout. */
        void noteBearing(int step) {
            for (int r = 0; r < made; r++) {
                bearing[r] = isPresent(r) && kinds[r] != GUIDE && !isLifted(r, step);
            }
        }

        boolean isBearing(int r) {
            return bearing[r];
        }

        /** Twice the LOAD of a REST, if the one left out were not there (NONE: all are). */
        int twiceLoad(int r, int leftOut) {
            if (!bearing[r] || r == leftOut) {
                return 0;
            }
            int from = 0;
            int to = run.length();
            for (int other = 0; other < made; other++) {
                if (bearing[other] && other != leftOut) {
                    if (places[other] < places[r]) {
                        from = Math.max(from, places[other]);
                    } else if (places[other] > places[r]) {
                        to = Math.min(to, places[other]);
                    }
                }
            }
            return run.weight(from, to);
        }

        int replaceReading(int r, int v) {
            int was = readings[r];
            readings[r] = v;
            return was;
        }

        private boolean isRead(int r) {
            return !isGone(r) && readings[r] != NONE;
        }

        boolean hasReading() {
            for (int r = 0; r < made; r++) {
                if (isRead(r)) {
                    return true;
                }
            }
            return false;
        }

        /**
         * How far twice the LOADS are from what was READ, over all of which it was told but the one left out.
         * One beyond the end of the run bears nothing, yet what was READ of it still has to be explained.
         */
        int differenceWithout(int leftOut) {
            int sum = 0;
            for (int r = 0; r < made; r++) {
                if (isRead(r) && r != leftOut) {
                    sum += Math.abs(twiceLoad(r, leftOut) - readings[r]);
                }
            }
            return sum;
        }

        long mixInto(long h) {
            for (int r = 0; r < made; r++) {
                if (isGone(r)) {
                    h = 31 * h - 1;
                } else {
                    for (int what = 0; what <= 3; what++) {
                        h = 31 * h + tell(r, what);
                    }
                    h = 31 * h + readings[r];
                }
            }
            return h;
        }
    }

    /** THE LIST of RATES from which springs are chosen. */
    private static final class Rates {
        private final int[] rates = new int[TOP_RATES];
        private int size = 0;

        int size() {
            return size;
        }

        void append(int rate) {
            rates[size] = rate;
            size++;
        }

        /** The greatest RATE with which CHANGE is at most a quarter of LOAD; NONE: none is. */
        int greatestFirmEnough(int travel, int twiceLoad) {
            int greatest = NONE;
            for (int i = 0; i < size; i++) {
                boolean firmEnough = 8L * rates[i] * travel <= 1000L * twiceLoad;
                if (firmEnough && rates[i] > greatest) {
                    greatest = rates[i];
                }
            }
            return greatest;
        }
    }

    /** CASES, and of each the bits of those that it does not go together with. */
    private static final class Cases {
        private final int[] amounts = new int[CASES];
        private final int[] lows = new int[CASES];
        private final int[] highs = new int[CASES];
        private final int[] barred = new int[CASES];

        Cases() {
            Arrays.fill(highs, 1);
        }

        void put(int c, int v, int low, int high) {
            amounts[c] = v;
            lows[c] = low;
            highs[c] = high;
        }

        boolean setBarred(int c, int d, boolean is) {
            boolean was = (barred[c] & (1 << d)) != 0;
            if (was != is) {
                barred[c] ^= 1 << d;
                barred[d] ^= 1 << c;
            }
            return was;
        }

        int worstSet() {
            int worst = 0;
            int greatest = 0;
            for (int set = 1; set < 1 << CASES; set++) {
                if (goesTogether(set)) {
                    int sum = joined(set);
                    if (sum > greatest) {
                        worst = set;
                        greatest = sum;
                    }
                }
            }
            return worst;
        }

        private boolean goesTogether(int set) {
            for (int c = 0; c < CASES; c++) {
                if ((set & (1 << c)) != 0 && (set & barred[c]) != 0) {
                    return false;
                }
            }
            return true;
        }

        /** The greatest sum over a set of CASES of amount times low or high. */
        int joined(int set) {
            int sum = 0;
            for (int c = 0; c < CASES; c++) {
                if ((set & (1 << c)) != 0) {
                    sum += Math.max(amounts[c] * lows[c], amounts[c] * highs[c]);
                }
            }
            return sum;
        }

        long mixInto(long h) {
            for (int c = 0; c < CASES; c++) {
                h = 31 * h + amounts[c];
                h = 31 * h + lows[c];
                h = 31 * h + highs[c];
            }
            return h;
        }
    }

    /** Lines of CYCLES: only their number and what they use up together is ever asked for. */
    private static final class Cycles {
        private int lines = 0;
        private long parts = 0;

        int lines() {
            return lines;
        }

        /** USED in parts of which MOST_BORNE are the whole. */
        long partsUsed() {
            return parts;
        }

        void append(int n, int range) {
            lines++;
            parts += (long) n << (range / 4);
        }
    }
}
