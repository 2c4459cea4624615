import java.util.Arrays;

/** Pairings of a net, counted by how many lines they have; ../shared/DOC.md says what each call promises. */
public final class PairedLines {
    public static final int NONE = -1, BAD = -2, STATE = -3, FULL = -4, MUCH = -5, NOTHING = -11, PLACE = -12, KIND = -13, SIZE = -14;
    public static final long NO = -4611686018427387904L;

    private static final int MOST_POINTS = 12;
    private static final int MOST_LINES = 40;
    private static final int MOST_FIGURE = 9999;
    private static final int MOST_TIDE = 9;
    private static final int MOST_RATE = 9;
    private static final int MOST_DEPTH = 5;
    private static final int MOST_NODES = 300;
    private static final int MOST_LAID = 20;
    private static final int MOST_CELLS = 60;
    private static final int MOST_BUILT = 15;
    private static final int MOST_PLACE = 60;
    private static final int MOST_PARTING = 6;
    private static final int KINDS = 6;
    private static final int SORTS = 4;
    private static final int RACKS = 3;
    private static final int SHEETS = 4;
    /** Sets of POINTS there are: as many as the bits of MOST_POINTS tell. */
    private static final int SETS = 4096;
    /** COUNTS of a set: 0 .. 6 LINES. */
    private static final int SIZES = 7;
    /** The first POINTS, whose sets have no place of their own in the table of COUNTS. */
    private static final int LOOSE = 3;
    private static final int FIRST_POINTS = (1 << LOOSE) - 1;
    private static final int PLACES = LOOSE + (SETS >> LOOSE);
    /** Which KIND each KIND stands under. */
    private static final int[] ABOVE = {-1, 0, 0, 1, 2, 0};

    private static final int INTS = 0;
    private static final int LONGS = 1;
    private static final int FLOATS = 2;
    private static final int LEAST_INT = -2147483648;
    private static final long LEAST_LONG = -9223372036854775808L;
    private static final long MOST_LONG = 9223372036854775807L;

    private final Net net = new Net();
    private final Net kept = new Net();
    private boolean isKept = false;
    private final Table table = new Table();
    private final Terms terms = new Terms();
    private Tree grown = new Tree();
    private Tree spare = new Tree();
    private final Rack[] racks = new Rack[RACKS];
    private final Sheet[] sheets = new Sheet[SHEETS];

    public PairedLines() {
        for (int r = 0; r < RACKS; r++) {
            racks[r] = new Rack();
        }
        for (int s = 0; s < SHEETS; s++) {
            sheets[s] = new Sheet();
        }
    }

    // ---- the net

    public int points(int n) {
        if (isBeyond(n, 0, MOST_POINTS)) {
            return BAD;
        }
        int before = net.pointCount;
        net.begin(n);
        return before;
    }

    public int line(int kind, int figure, int a, int b) {
        return net.add(kind, figure, a, b);
    }

    public int told(int line, int what) {
        if (!net.hasLine(line)) {
            return BAD;
        }
        switch (what) {
            case 0:
                return net.kinds[line];
            case 1:
                return net.figures[line];
            case 2:
                return net.weightOf(line);
            case 3:
                return net.lows[line];
            case 4:
                return net.highs[line];
            default:
                return BAD;
        }
    }

    public int set(int line, int figure) {
        if (!net.hasLine(line) || isBeyond(figure, 0, MOST_FIGURE)) {
            return BAD;
        }
        int before = net.figures[line];
        net.figures[line] = figure;
        net.age++;
        return before;
    }

    public int turns(int line, int kind) {
        if (!net.hasLine(line) || isBeyond(kind, 0, KINDS - 1)) {
            return BAD;
        }
        int before = net.kinds[line];
        net.kinds[line] = kind;
        net.age++;
        return before;
    }

    public int drop(int line) {
        if (!net.hasLine(line)) {
            return BAD;
        }
        net.remove(line);
        return net.lineCount;
    }

    public int tide(int v) {
        if (isBeyond(v, 0, MOST_TIDE)) {
            return BAD;
        }
        int before = net.tideNow;
        net.tideNow = v;
        net.age++;
        return before;
    }

    public int between(int a, int b) {
        if (!net.hasPoint(a) || !net.hasPoint(b) || a == b) {
            return BAD;
        }
        return net.joining(a, b);
    }

    public int near(int point, int out) {
        if (!net.hasPoint(point) || isNoSet(out)) {
            return BAD;
        }
        return net.nears[point] & ~out;
    }

    // ---- counts

    public long counts(int out, int k) {
        if (isNoSet(out) || isBeyond(k, 0, SIZES - 1)) {
            return NO + BAD;
        }
        int row = rowOf(out);
        return table.isMuch(row) ? NO + MUCH : table.worths[row + k];
    }

    public long coef(int out, int i) {
        if (isNoSet(out) || isBeyond(i, 0, MOST_POINTS)) {
            return NO + BAD;
        }
        int row = rowOf(out);
        return table.isMuch(row) ? NO + MUCH : table.numberAt(row, degreeOf(out), i);
    }

    public long sum(int out, int rate) {
        if (isNoSet(out) || isNoRate(rate)) {
            return NO + BAD;
        }
        terms.load(table, rowOf(out), rate);
        return terms.total < 0 ? NO + MUCH : terms.total;
    }

    public int likely(int out, int rate) {
        if (isNoSet(out) || isNoRate(rate)) {
            return BAD;
        }
        terms.load(table, rowOf(out), rate);
        return terms.greatest();
    }

    public long mean(int out, int rate, int part) {
        if (isNoSet(out) || isNoRate(rate) || isNoPart(part)) {
            return NO + BAD;
        }
        terms.load(table, rowOf(out), rate);
        return partOf(terms.once, terms.total, part);
    }

    public long spread(int out, int rate, int part) {
        if (isNoSet(out) || isNoRate(rate) || isNoPart(part)) {
            return NO + BAD;
        }
        terms.load(table, rowOf(out), rate);
        long squares = Whole.times(terms.twice, terms.total);
        long square = Whole.times(terms.once, terms.once);
        long below = Whole.times(terms.total, terms.total);
        if (squares < 0 || square < 0) {
            return NO + MUCH;
        }
        return partOf(squares - square, below, part);
    }

    public long meanAs(int out, int rate, int how) {
        if (isNoSet(out) || isNoRate(rate) || isBeyond(how, 0, 5)) {
            return NO + BAD;
        }
        terms.load(table, rowOf(out), rate);
        if (terms.once < 0 || terms.total <= 0) {
            return NO + MUCH;
        }
        return meanTold((double) terms.once / (double) terms.total, how);
    }

    public int most(int out) {
        if (isNoSet(out)) {
            return BAD;
        }
        return table.longest[rowOf(out) / SIZES];
    }

    public long other(int k) {
        if (isBeyond(k, 0, SIZES - 1)) {
            return NO + BAD;
        }
        table.prepare(net, true);
        return table.worths[table.rowFor(net.allPoints()) + k];
    }

    // ---- alone

    public long alone(int point, int out, int rate, int part) {
        if (isNoPointIn(point, out) || isNoRate(rate) || isNoPart(part)) {
            return NO + BAD;
        }
        terms.load(table, rowOf(out), rate);
        long below = terms.total;
        terms.load(table, rowOf(out | 1 << point), rate);
        return partOf(terms.total, below, part);
    }

    public int tree(int point, int out) {
        if (isNoPointIn(point, out)) {
            return BAD;
        }
        if (!spare.grow(net, point, out)) {
            return MUCH;
        }
        Tree older = grown;
        grown = spare;
        spare = older;
        return grown.size;
    }

    public int node(int k, int what) {
        if (!grown.hasNode(k)) {
            return PLACE;
        }
        switch (what) {
            case 0:
                return grown.spots[k];
            case 1:
                return grown.parents[k];
            case 2:
                return grown.branches[k];
            case 3:
                return grown.depths[k];
            default:
                return BAD;
        }
    }

    public long share(int k, int rate, int part) {
        if (!grown.hasNode(k)) {
            return NO + PLACE;
        }
        if (isNoRate(rate) || isNoPart(part)) {
            return NO + BAD;
        }
        if (!grown.standsIn(net)) {
            return NO + STATE;
        }
        grown.weighFrom(k, net, rate);
        if (grown.above[k] < 0) {
            return NO + MUCH;
        }
        return part == 0 ? grown.below[k] : grown.above[k];
    }

    public int cutOff(int point, int out, int rate, int depth) {
        if (isNoPointIn(point, out) || isNoRate(rate) || isBeyond(depth, 0, MOST_DEPTH)) {
            return BAD;
        }
        return net.cutAsBits(point, out, rate, depth);
    }

    // ---- signs

    public int sign(int out, int p, int q) {
        if (isNoSet(out) || isNoPlaceOnLine(p) || isBeyond(q, 1, MOST_PARTING)) {
            return BAD;
        }
        return table.signAt(rowOf(out), degreeOf(out), p, q);
    }

    public int changes(int out, int q, int from, int to) {
        if (isNoSet(out) || isBeyond(q, 1, MOST_PARTING) || from > to || isNoPlaceOnLine(from) || isNoPlaceOnLine(to)) {
            return BAD;
        }
        int row = rowOf(out);
        int degree = degreeOf(out);
        int last = 0;
        int found = 0;
        for (int p = from; p <= to; p++) {
            int now = table.signAt(row, degree, p, q);
            if (now == MUCH) {
                return MUCH;
            }
            if (now != 0) {
                found += last != 0 && now != last ? 1 : 0;
                last = now;
            }
        }
        return found;
    }

    // ---- pairings

    public int isPairing(long lines) {
        if (!net.hasLines(lines)) {
            return BAD;
        }
        return net.meetNowhere(lines) ? 1 : 0;
    }

    public long worth(long lines) {
        if (!net.hasLines(lines)) {
            return NO + BAD;
        }
        if (!net.meetNowhere(lines)) {
            return NO + STATE;
        }
        long all = net.productOf(lines);
        return all < 0 ? NO + MUCH : all;
    }

    public long listed(int size, int k) {
        if (isBeyond(size, 0, SIZES - 1)) {
            return NO + BAD;
        }
        if (k < -1) {
            return NO + PLACE;
        }
        if (k == -1) {
            return net.pairingsOf(size);
        }
        long found = net.pairingAt(size, k);
        return found < 0 ? NO + PLACE : found;
    }

    public long lot(int seed, int odds) {
        if (isBeyond(odds, 0, 10)) {
            return NO + BAD;
        }
        return net.drawn(seed, odds);
    }

    // ---- racks

    public int rack(int r, int kind, int n) {
        if (isNoRack(r) || isBeyond(kind, NONE, KINDS - 1) || kind != NONE && n > MOST_LAID) {
            return BAD;
        }
        if (kind != NONE && n < 0) {
            return SIZE;
        }
        racks[r].begin(kind, n);
        return 1;
    }

    public int lay(int r, int i, int line) {
        if (isNoRack(r) || !net.hasLine(line)) {
            return BAD;
        }
        int fault = racks[r].faultAt(i);
        if (fault != 0) {
            return fault;
        }
        int kind = net.kinds[line];
        if (!isUnder(kind, racks[r].kind)) {
            return KIND;
        }
        racks[r].put(i, kind, net.figures[line]);
        return kind;
    }

    public int of(int r, int i) {
        if (isNoRack(r)) {
            return BAD;
        }
        int fault = racks[r].faultAt(i);
        if (fault != 0) {
            return fault;
        }
        if (racks[r].isEmptyAt(i)) {
            return STATE;
        }
        return weightBy(racks[r].kinds[i], racks[r].figures[i], net.tideNow);
    }

    // ---- sheets

    public int sheet(int s, int sort, int n) {
        if (isNoSheet(s) || isBeyond(sort, NONE, SORTS - 1) || sort != NONE && n > MOST_CELLS) {
            return BAD;
        }
        if (sort != NONE && n < 0) {
            return SIZE;
        }
        sheets[s].begin(sort, n);
        return 1;
    }

    public int cell(int s, int i, long v) {
        if (isNoSheet(s)) {
            return BAD;
        }
        int fault = sheets[s].faultAt(i);
        if (fault != 0) {
            return fault;
        }
        return sheets[s].put(i, v) ? 1 : MUCH;
    }

    public long read(int s, int i, int how) {
        if (isNoSheet(s) || isBeyond(how, 0, 4)) {
            return NO + BAD;
        }
        int fault = sheets[s].faultAt(i);
        if (fault != 0) {
            return NO + fault;
        }
        return sheets[s].readAs(i, how);
    }

    public int parts(int s, int i, int m) {
        if (isNoSheet(s) || isBeyond(m, 1, 99)) {
            return BAD;
        }
        int fault = sheets[s].faultAt(i);
        if (fault != 0) {
            return fault;
        }
        sheets[s].divide(i, m);
        return 1;
    }

    public int writes(int s, int out) {
        int fault = faultOf(s, out);
        if (fault != 0) {
            return fault;
        }
        int row = rowOf(out);
        int degree = degreeOf(out);
        for (int i = 0; i <= degree; i++) {
            if (!sheets[s].hasPlace(i)) {
                return PLACE;
            }
            if (!sheets[s].put(i, table.numberAt(row, degree, i))) {
                return MUCH;
            }
        }
        return degree + 1;
    }

    public int same(int s, int out) {
        int fault = faultOf(s, out);
        if (fault != 0) {
            return fault;
        }
        int row = rowOf(out);
        for (int i = 0; i < sheets[s].size; i++) {
            if (!sheets[s].holds(i, i < SIZES ? table.worths[row + i] : 0)) {
                return i;
            }
        }
        return NONE;
    }

    public int copy(int from, int i, int to, int j, int n) {
        if (isNoSheet(from) || isNoSheet(to)) {
            return BAD;
        }
        if (sheets[from].isMissing() || sheets[to].isMissing()) {
            return NOTHING;
        }
        if (sheets[from].sort != sheets[to].sort) {
            return KIND;
        }
        if (!sheets[from].hasRun(i, n) || !sheets[to].hasRun(j, n)) {
            return PLACE;
        }
        sheets[to].take(sheets[from], i, j, n);
        return n;
    }

    public int build(int s, int from, int n) {
        if (isNoSheet(s) || isBeyond(n, 0, MOST_BUILT)) {
            return BAD;
        }
        if (sheets[s].isMissing()) {
            return NOTHING;
        }
        if (sheets[s].sort != INTS) {
            return KIND;
        }
        int[] rows = sheets[s].ints;
        int came = 0;
        for (int k = 0; k < n; k++) {
            // from may be so great that four times k more would wrap round
            if (from > MOST_CELLS || !sheets[s].hasRun(from + 4 * k, 4)) {
                return PLACE;
            }
            int at = from + 4 * k;
            came += net.add(rows[at], rows[at + 1], rows[at + 2], rows[at + 3]) >= 0 ? 1 : 0;
        }
        return came;
    }

    public int image() {
        kept.become(net);
        isKept = true;
        return net.lineCount;
    }

    public int back() {
        if (!isKept) {
            return STATE;
        }
        net.become(kept);
        return net.lineCount;
    }

    public int count(int what) {
        switch (what) {
            case 0:
                return net.pointCount;
            case 1:
                return net.lineCount;
            case 2:
                return net.tideNow;
            case 3:
                return grown.size;
            default:
                return BAD;
        }
    }

    // ---- what the calls share

    private int rowOf(int out) {
        table.prepare(net, false);
        return table.rowFor(net.allPoints() & ~out);
    }

    private int degreeOf(int out) {
        return Integer.bitCount(net.allPoints() & ~out);
    }

    private boolean isNoPointIn(int point, int out) {
        return !net.hasPoint(point) || isNoSet(out) || (out >> point & 1) != 0;
    }

    /** Why a SHEET can't be set beside the COUNTS by OUT; 0: it can. */
    private int faultOf(int s, int out) {
        if (isNoSheet(s) || isNoSet(out)) {
            return BAD;
        }
        if (sheets[s].isMissing()) {
            return NOTHING;
        }
        return table.isMuch(rowOf(out)) ? MUCH : 0;
    }

    private static boolean isBeyond(int n, int least, int most) {
        return n < least || n > most;
    }

    private static boolean isNoSet(int out) {
        return isBeyond(out, 0, SETS - 1);
    }

    private static boolean isNoRate(int rate) {
        return isBeyond(rate, 0, MOST_RATE);
    }

    private static boolean isNoPart(int part) {
        return isBeyond(part, 0, 1);
    }

    private static boolean isNoPlaceOnLine(int p) {
        return isBeyond(p, -MOST_PLACE, MOST_PLACE);
    }

    private static boolean isNoRack(int r) {
        return isBeyond(r, 0, RACKS - 1);
    }

    private static boolean isNoSheet(int s) {
        return isBeyond(s, 0, SHEETS - 1);
    }

    private static boolean isUnder(int kind, int top) {
        int at = kind;
        for (int i = 0; i < KINDS && at >= 0 && at < KINDS; i++) {
            if (at == top) {
                return true;
            }
            at = ABOVE[at];
        }
        return false;
    }

    private static int weightBy(int kind, int figure, int tide) {
        switch (kind) {
            case 1:
                return 2 * figure;
            case 2:
                return Math.max(0, figure - tide);
            case 3:
                return 2 * figure + tide;
            case 4:
                return Math.max(0, figure - tide) / 2;
            case 5:
                return tide % 2 == 0 ? figure : 1;
            default:
                return figure;
        }
    }

    /** A part of a fraction in lowest terms; either may be less than nothing, for MUCH. */
    private static long partOf(long above, long below, int part) {
        if (above < 0 || below <= 0) {
            return NO + MUCH;
        }
        long common = Whole.commonOf(above, below);
        return (part == 0 ? above : below) / common;
    }

    private static long meanTold(double m, int how) {
        switch (how) {
            case 0:
                return (long) (m * 1000);
            case 1:
                return HostBits.ofFloat((float) m, false);
            case 2:
                return HostBits.ofDouble(m, false);
            case 3:
                return (int) (HostBits.restOf(m, 1.0) * 1000);
            case 4:
                return HostBits.ofDouble(HostBits.restOf(m, 0.375), false);
            default:
                // what is left of two floats is a float too, so that it may be found by doubles
                return HostBits.ofFloat((float) HostBits.restOf((float) m, 0.3f), false);
        }
    }

    /** POINTS, LINES and TIDE; what THE IMAGE keeps is one too. */
    private static final class Net {
        final int[] kinds = new int[MOST_LINES];
        final int[] figures = new int[MOST_LINES];
        final int[] lows = new int[MOST_LINES];
        final int[] highs = new int[MOST_LINES];
        /** By two POINTS: the number of their LINE and one more, so that 0 is none. */
        private final int[] joins = new int[MOST_POINTS * MOST_POINTS];
        final int[] nears = new int[MOST_POINTS];
        private final long[] linesAt = new long[MOST_POINTS];
        int pointCount = 0;
        int lineCount = 0;
        int tideNow = 0;
        /** Another one after each change, so that counts of before are known to be old. */
        int age = 0;

        void begin(int n) {
            pointCount = n;
            lineCount = 0;
            link();
        }

        int add(int kind, int figure, int a, int b) {
            if (isBeyond(kind, 0, KINDS - 1) || isBeyond(figure, 0, MOST_FIGURE) || !hasPoint(a) || !hasPoint(b) || a == b) {
                return BAD;
            }
            if (joining(a, b) != NONE) {
                return STATE;
            }
            if (lineCount >= MOST_LINES) {
                return FULL;
            }
            int line = lineCount;
            lineCount++;
            kinds[line] = kind;
            figures[line] = figure;
            lows[line] = Math.min(a, b);
            highs[line] = Math.max(a, b);
            linkOne(line);
            age++;
            return line;
        }

        void remove(int line) {
            lineCount--;
            for (int i = line; i < lineCount; i++) {
                kinds[i] = kinds[i + 1];
                figures[i] = figures[i + 1];
                lows[i] = lows[i + 1];
                highs[i] = highs[i + 1];
            }
            link();
        }

        void become(Net model) {
            System.arraycopy(model.kinds, 0, kinds, 0, MOST_LINES);
            System.arraycopy(model.figures, 0, figures, 0, MOST_LINES);
            System.arraycopy(model.lows, 0, lows, 0, MOST_LINES);
            System.arraycopy(model.highs, 0, highs, 0, MOST_LINES);
            pointCount = model.pointCount;
            lineCount = model.lineCount;
            tideNow = model.tideNow;
            link();
        }

        private void link() {
            Arrays.fill(joins, 0);
            Arrays.fill(nears, 0);
            Arrays.fill(linesAt, 0L);
            for (int i = 0; i < lineCount; i++) {
                linkOne(i);
            }
            age++;
        }

        private void linkOne(int line) {
            int a = lows[line];
            int b = highs[line];
            joins[a * MOST_POINTS + b] = line + 1;
            joins[b * MOST_POINTS + a] = line + 1;
            nears[a] |= 1 << b;
            nears[b] |= 1 << a;
            linesAt[a] |= 1L << line;
            linesAt[b] |= 1L << line;
        }

        boolean hasPoint(int point) {
            return point >= 0 && point < pointCount;
        }

        boolean hasLine(int line) {
            return line >= 0 && line < lineCount;
        }

        boolean hasLines(long lines) {
            return (lines & ~allLines()) == 0;
        }

        int allPoints() {
            return (1 << pointCount) - 1;
        }

        long allLines() {
            return (1L << lineCount) - 1;
        }

        /** The LINE of two of the twelve POINTS that there may be, even of such as are no more. */
        int joining(int a, int b) {
            return joins[a * MOST_POINTS + b] - 1;
        }

        int weightOf(int line) {
            return weightBy(kinds[line], figures[line], tideNow);
        }

        int weightBetween(int a, int b) {
            int line = joining(a, b);
            return line < 0 ? 0 : weightOf(line);
        }

        private long meeting(int line) {
            return linesAt[lows[line]] | linesAt[highs[line]];
        }

        boolean meetNowhere(long lines) {
            int taken = 0;
            for (int i = 0; i < lineCount; i++) {
                if ((lines >>> i & 1) != 0) {
                    int ends = 1 << lows[i] | 1 << highs[i];
                    if ((taken & ends) != 0) {
                        return false;
                    }
                    taken |= ends;
                }
            }
            return true;
        }

        /** What LINES are worth, less than nothing if that is MUCH; a WEIGHT of 0 makes it 0 even so. */
        long productOf(long lines) {
            long all = 1;
            for (int i = 0; i < lineCount; i++) {
                if ((lines >>> i & 1) != 0) {
                    int weight = weightOf(i);
                    if (weight == 0) {
                        return 0;
                    }
                    all = Whole.times(all, weight);
                }
            }
            return all;
        }

        long pairingsOf(int size) {
            return pairingsIn(allLines(), size);
        }

        /** How many PAIRINGS of a size there are of free LINES; as each one's greatest LINE is taken first, none comes twice. */
        private long pairingsIn(long free, int size) {
            int left = Long.bitCount(free);
            if (size <= 0 || left < size) {
                return size == 0 ? 1 : 0;
            }
            if (size == 1) {
                return left;
            }
            long found = 0;
            long rest = free;
            for (int i = 0; i < left; i++) {
                long bit = rest & -rest;
                rest ^= bit;
                found += pairingsIn(freeBelow(free, bit), size - 1);
            }
            return found;
        }

        /** Free LINES of lesser numbers than the one of this bit which do not meet it. */
        private long freeBelow(long free, long bit) {
            int line = Long.bitCount(bit - 1);
            return hasLine(line) ? free & (bit - 1) & ~meeting(line) : 0;
        }

        /** The PAIRING at a place, less than nothing if there is none: sets are in order by their greatest LINE, then by the next one. */
        long pairingAt(int size, int place) {
            long found = 0;
            long free = allLines();
            long ahead = place;
            for (int open = size; open > 0; open--) {
                long taken = 0;
                long rest = free;
                for (int i = Long.bitCount(free); i > 0 && taken == 0; i--) {
                    long bit = rest & -rest;
                    rest ^= bit;
                    long many = pairingsIn(freeBelow(free, bit), open - 1);
                    if (ahead < many) {
                        taken = bit;
                    } else {
                        ahead -= many;
                    }
                }
                if (taken == 0) {
                    return -1;
                }
                found |= taken;
                free = freeBelow(free, taken);
            }
            return ahead == 0 ? found : -1;
        }

        long drawn(int seed, int odds) {
            int z = seed;
            long found = 0;
            for (int i = 0; i < lineCount; i++) {
                if ((meeting(i) & found) == 0) {
                    z = z * 1103515245 + 12345;
                    if ((z >>> 8) % 10 < odds) {
                        found |= 1L << i;
                    }
                }
            }
            return found;
        }

        int cutAsBits(int point, int out, int rate, int depth) {
            return HostBits.ofFloat(cutAt(point, out, rate, depth), false);
        }

        private float cutAt(int point, int out, int rate, int depth) {
            if (depth <= 0) {
                return 1.0f;
            }
            int gone = out | 1 << point;
            int next = nears[point] & ~gone;
            float s = 1.0f;
            for (int v = 0; v < pointCount; v++) {
                if ((next >> v & 1) != 0) {
                    s = s + (float) (rate * weightBetween(point, v)) * cutAt(v, gone, rate, depth - 1);
                }
            }
            return 1.0f / s;
        }
    }

    /** COUNTS by sets of POINTS. Sets without the first LOOSE POINTS have a place each and stay as long as the net does; of the others, which would need eight times the room, just the last one of each least POINT stays. */
    private static final class Table {
        /** SIZES numbers a place; less than nothing: MUCH. */
        final long[] worths = new long[PLACES * SIZES];
        /** How many LINES the longest PAIRING of the set at a place has. */
        final int[] longest = new int[PLACES];
        /** Which set is at a place, and since when. */
        private final int[] sets = new int[PLACES];
        private final int[] stamps = new int[PLACES];
        private final int[] nears = new int[MOST_POINTS];
        private final int[] weights = new int[MOST_POINTS * MOST_POINTS];
        private int stamp = 0;
        private int age = -1;
        private boolean isTurned = false;

        /** Turned: LINES of WEIGHT 1 are where the net has none. */
        void prepare(Net net, boolean turned) {
            if (stamp > 0 && age == net.age && isTurned == turned) {
                return;
            }
            stamp++;
            age = net.age;
            isTurned = turned;
            for (int a = 0; a < MOST_POINTS; a++) {
                nears[a] = turned ? net.allPoints() & ~net.nears[a] & ~(1 << a) : net.nears[a];
                for (int b = 0; b < MOST_POINTS; b++) {
                    weights[a * MOST_POINTS + b] = turned ? 1 : net.weightBetween(a, b);
                }
            }
        }

        /** Where the numbers of a set begin in worths; those of a set with one of the first POINTS stand until the next such set is asked for. */
        int rowFor(int set) {
            return placeFor(set, 0) * SIZES;
        }

        private static int placeOf(int set) {
            int first = set & FIRST_POINTS;
            return first == 0 ? LOOSE + (set >> LOOSE) : leastOf(first);
        }

        private static int leastOf(int set) {
            return Integer.bitCount((set & -set) - 1);
        }

        /** The place of a set, with its COUNTS: its least POINT is alone or paired, and either way the sets that are left have greater least POINTS, so that none of them comes to this place. */
        private int placeFor(int set, int depth) {
            int at = placeOf(set);
            if (stamps[at] == stamp && sets[at] == set || depth > MOST_POINTS) {
                return at;
            }
            stamps[at] = stamp;
            sets[at] = set;
            if (set == 0) {
                // no other COUNT of no POINTS is ever written
                worths[at * SIZES] = 1;
                return at;
            }
            int point = leastOf(set);
            int rest = set ^ 1 << point;
            int without = placeFor(rest, depth + 1);
            System.arraycopy(worths, without * SIZES, worths, at * SIZES, SIZES);
            longest[at] = longest[without];
            int next = nears[point] & rest;
            for (int v = point + 1; v < MOST_POINTS; v++) {
                if ((next >> v & 1) != 0) {
                    addPaired(at, placeFor(rest ^ 1 << v, depth + 1), weights[point * MOST_POINTS + v]);
                }
            }
            return at;
        }

        /** A WEIGHT of 0 adds nothing, even where what it would be taken times is MUCH; and beyond the longest PAIRING that is left there is nothing to add. */
        private void addPaired(int at, int left, int weight) {
            longest[at] = Math.max(longest[at], longest[left] + 1);
            if (weight == 0) {
                return;
            }
            int to = at * SIZES;
            int from = left * SIZES;
            int most = Math.min(longest[left] + 1, SIZES - 1);
            for (int k = 1; k <= most; k++) {
                worths[to + k] = Whole.plus(worths[to + k], Whole.times(weight, worths[from + k - 1]));
            }
        }

        boolean isMuch(int row) {
            for (int k = 0; k < SIZES; k++) {
                if (worths[row + k] < 0) {
                    return true;
                }
            }
            return false;
        }

        /** The number that THE POLYNOMIAL of a row has at x i times. */
        long numberAt(int row, int degree, int i) {
            int twice = degree - i;
            if (twice < 0 || twice % 2 != 0) {
                return 0;
            }
            int k = twice / 2;
            return k % 2 == 0 ? worths[row + k] : -worths[row + k];
        }

        int signAt(int row, int degree, int p, int q) {
            if (isMuch(row)) {
                return MUCH;
            }
            long v = numberAt(row, degree, degree);
            long power = 1;
            for (int i = 1; i <= degree; i++) {
                power *= q;
                long number = numberAt(row, degree, degree - i);
                if (!Whole.canMultiply(v, p) || !Whole.canMultiply(number, power)) {
                    return MUCH;
                }
                if (!Whole.canAdd(v * p, number * power)) {
                    return MUCH;
                }
                v = v * p + number * power;
            }
            return Long.compare(v, 0);
        }
    }

    /** TERMS by a RATE, and their sums; less than nothing: MUCH. */
    private static final class Terms {
        private final long[] each = new long[SIZES];
        /** SUM, B and A of the document. */
        long total = 0;
        long once = 0;
        long twice = 0;

        void load(Table table, int row, int rate) {
            boolean much = table.isMuch(row);
            total = much ? -1 : 0;
            once = total;
            twice = total;
            long power = 1;
            for (int k = 0; k < SIZES; k++) {
                each[k] = much ? -1 : Whole.times(table.worths[row + k], power);
                total = Whole.plus(total, each[k]);
                once = Whole.plus(once, Whole.times(k, each[k]));
                twice = Whole.plus(twice, Whole.times(k * k, each[k]));
                power *= rate;
            }
        }

        int greatest() {
            int best = 0;
            for (int k = 0; k < SIZES; k++) {
                if (each[k] < 0) {
                    return MUCH;
                }
                best = each[k] > each[best] ? k : best;
            }
            return best;
        }
    }

    /** THE TREE: NODES in the order in which they are come to, so that all behind one follow it. */
    private static final class Tree {
        final int[] spots = new int[MOST_NODES];
        final int[] parents = new int[MOST_NODES];
        final int[] branches = new int[MOST_NODES];
        final int[] depths = new int[MOST_NODES];
        /** The number of the first NODE that isn't behind this one any more. */
        private final int[] ends = new int[MOST_NODES];
        /** S as a fraction; less than nothing: MUCH. SHARE is the same turned over. */
        final long[] above = new long[MOST_NODES];
        final long[] below = new long[MOST_NODES];
        int size = 0;

        boolean hasNode(int k) {
            return k >= 0 && k < size;
        }

        /** Whether there was room for all NODES. */
        boolean grow(Net net, int point, int out) {
            size = 0;
            return growFrom(net, point, NONE, out, 0);
        }

        private boolean growFrom(Net net, int point, int parent, int out, int depth) {
            if (size >= MOST_NODES || depth >= MOST_POINTS) {
                return false;
            }
            int at = size;
            size++;
            spots[at] = point;
            parents[at] = parent;
            branches[at] = 0;
            depths[at] = depth;
            int gone = out | 1 << point;
            int next = net.nears[point] & ~gone;
            for (int v = 0; v < MOST_POINTS; v++) {
                if ((next >> v & 1) != 0) {
                    branches[at]++;
                    if (!growFrom(net, v, at, gone, depth + 1)) {
                        return false;
                    }
                }
            }
            ends[at] = size;
            return true;
        }

        boolean standsIn(Net net) {
            for (int i = 1; i < size; i++) {
                if (net.joining(spots[i], spots[parents[i]]) == NONE) {
                    return false;
                }
            }
            return true;
        }

        /** From the last NODE behind k on, as each one's SHARE needs those behind it. */
        void weighFrom(int k, Net net, int rate) {
            for (int i = ends[k] - 1; i >= k; i--) {
                weigh(i, net, rate);
            }
        }

        private void weigh(int at, Net net, int rate) {
            long a = 1;
            long b = 1;
            int next = at + 1;
            for (int i = 0; i < branches[at] && next < size && a > 0; i++) {
                long heavy = rate * net.weightBetween(spots[at], spots[next]);
                long c = below[next];
                long d = above[next];
                long top = Whole.plus(Whole.times(a, d), Whole.times(Whole.times(heavy, c), b));
                long foot = Whole.times(b, d);
                boolean much = top <= 0 || foot <= 0;
                long common = much ? 1 : Whole.commonOf(top, foot);
                a = much ? -1 : top / common;
                b = much ? -1 : foot / common;
                next = ends[next];
            }
            above[at] = a;
            below[at] = b;
        }
    }

    /** A row for LINES of one KIND: each place keeps what a LINE was as it came. */
    private static final class Rack {
        final int[] kinds = new int[MOST_LAID];
        final int[] figures = new int[MOST_LAID];
        int kind = NONE;
        private int size = 0;

        void begin(int newKind, int n) {
            kind = newKind;
            size = newKind == NONE ? 0 : n;
            Arrays.fill(kinds, NONE);
        }

        int faultAt(int i) {
            if (kind == NONE) {
                return NOTHING;
            }
            return i >= 0 && i < size ? 0 : PLACE;
        }

        boolean isEmptyAt(int i) {
            return kinds[i] == NONE;
        }

        void put(int i, int lineKind, int figure) {
            kinds[i] = lineKind;
            figures[i] = figure;
        }
    }

    /** A row of numbers of one sort; it has room for each sort, so that none is made anew. */
    private static final class Sheet {
        final int[] ints = new int[MOST_CELLS];
        private final long[] longs = new long[MOST_CELLS];
        private final float[] floats = new float[MOST_CELLS];
        private final double[] doubles = new double[MOST_CELLS];
        /** Below 0 if the number came as one below nothing: a float or a double keeps that sign even as parts make it a 0, where comparing can't see it. */
        private final int[] signs = new int[MOST_CELLS];
        int sort = NONE;
        int size = 0;

        void begin(int newSort, int n) {
            sort = newSort;
            size = newSort == NONE ? 0 : n;
            for (int i = 0; i < MOST_CELLS; i++) {
                ints[i] = 0;
                longs[i] = 0;
                floats[i] = 0.0f;
                doubles[i] = 0.0;
                signs[i] = 0;
            }
        }

        boolean isMissing() {
            return sort == NONE;
        }

        boolean hasPlace(int i) {
            return i >= 0 && i < size;
        }

        boolean hasRun(int i, int n) {
            return i >= 0 && n >= 0 && i <= size && n <= size - i;
        }

        int faultAt(int i) {
            if (isMissing()) {
                return NOTHING;
            }
            return hasPlace(i) ? 0 : PLACE;
        }

        /** Whether it could come: a number that is no int can't come to ints. */
        boolean put(int i, long v) {
            if (sort == INTS && v != (int) v) {
                return false;
            }
            signs[i] = Long.compare(v, 0);
            if (sort == INTS) {
                ints[i] = (int) v;
            } else if (sort == LONGS) {
                longs[i] = v;
            } else if (sort == FLOATS) {
                floats[i] = (float) v;
            } else {
                doubles[i] = (double) v;
            }
            return true;
        }

        boolean holds(int i, long v) {
            switch (sort) {
                case INTS:
                    return ints[i] == v;
                case LONGS:
                    return longs[i] == v;
                case FLOATS:
                    return floats[i] == (float) v;
                default:
                    return doubles[i] == (double) v;
            }
        }

        long readAs(int i, int how) {
            switch (how) {
                case 0:
                    return asItIs(i);
                case 1:
                    return asInt(i);
                case 2:
                    return asLong(i);
                case 3:
                    return HostBits.ofFloat(asFloat(i), isNegative(i));
                default:
                    return (byte) asInt(i);
            }
        }

        private long asItIs(int i) {
            switch (sort) {
                case INTS:
                    return ints[i];
                case LONGS:
                    return longs[i];
                case FLOATS:
                    return HostBits.ofFloat(floats[i], isNegative(i));
                default:
                    return HostBits.ofDouble(doubles[i], isNegative(i));
            }
        }

        private boolean isNegative(int i) {
            switch (sort) {
                case INTS:
                    return ints[i] < 0;
                case LONGS:
                    return longs[i] < 0;
                default:
                    return signs[i] < 0;
            }
        }

        private int asInt(int i) {
            switch (sort) {
                case INTS:
                    return ints[i];
                case LONGS:
                    return (int) longs[i];
                case FLOATS:
                    return (int) floats[i];
                default:
                    return (int) doubles[i];
            }
        }

        private long asLong(int i) {
            switch (sort) {
                case INTS:
                    return ints[i];
                case LONGS:
                    return longs[i];
                case FLOATS:
                    return (long) floats[i];
                default:
                    return (long) doubles[i];
            }
        }

        private float asFloat(int i) {
            switch (sort) {
                case INTS:
                    return (float) ints[i];
                case LONGS:
                    return (float) longs[i];
                case FLOATS:
                    return floats[i];
                default:
                    return (float) doubles[i];
            }
        }

        void divide(int i, int m) {
            if (m == 0) {
                return;
            }
            if (sort == INTS) {
                ints[i] = ints[i] / m;
            } else if (sort == LONGS) {
                longs[i] = longs[i] / m;
            } else if (sort == FLOATS) {
                floats[i] = floats[i] / (float) m;
            } else {
                doubles[i] = doubles[i] / (double) m;
            }
        }

        void take(Sheet from, int i, int j, int n) {
            System.arraycopy(from.signs, i, signs, j, n);
            if (sort == INTS) {
                System.arraycopy(from.ints, i, ints, j, n);
            } else if (sort == LONGS) {
                System.arraycopy(from.longs, i, longs, j, n);
            } else if (sort == FLOATS) {
                System.arraycopy(from.floats, i, floats, j, n);
            } else {
                System.arraycopy(from.doubles, i, doubles, j, n);
            }
        }
    }

    /** Whole numbers that know when they are none of 64 bits. */
    private static final class Whole {
        /** Of two that aren't less than nothing; -1 stands for MUCH, and what is made of it is MUCH. */
        static long plus(long a, long b) {
            return a < 0 || b < 0 || a > MOST_LONG - b ? -1 : a + b;
        }

        /** As plus. */
        static long times(long a, long b) {
            if (a < 0 || b < 0) {
                return -1;
            }
            return b != 0 && a > MOST_LONG / b ? -1 : a * b;
        }

        static boolean canMultiply(long a, long b) {
            if (b == 0) {
                return true;
            }
            if (b == -1) {
                return a != LEAST_LONG;
            }
            return a * b / b == a;
        }

        static boolean canAdd(long a, long b) {
            long all = a + b;
            return ((a ^ all) & (b ^ all)) >= 0;
        }

        /** The greatest number that both are times of, 1 at least; each step but the first halves one of them, so that 200 are plenty. */
        static long commonOf(long a, long b) {
            long more = a;
            long less = b;
            for (int i = 0; i < 200 && less != 0; i++) {
                long rest = more % less;
                more = less;
                less = rest;
            }
            return more > 0 ? more : 1;
        }
    }

    /** The host's floats and doubles as the bits that they are, and what is left of one by another, made by + - * / alone. */
    private static final class HostBits {
        static int ofFloat(float x, boolean isNegative) {
            int size = (int) packed(x < 0 ? -x : x, 23, -126);
            return isNegative ? size | LEAST_INT : size;
        }

        static long ofDouble(double x, boolean isNegative) {
            long size = packed(x < 0 ? -x : x, 52, -1022);
            return isNegative ? size | LEAST_LONG : size;
        }

        /** Of a size below 2 to the 64th, as all here are: two's powers are taken off until 1 <= rest < 2, which never rounds; below the least power the digits move down. */
        private static long packed(double size, int digits, int leastPower) {
            if (size == 0) {
                return 0;
            }
            double rest = size;
            int power = 0;
            for (int i = 0; i < 20 && rest * 18446744073709551616.0 < 1; i++) {
                rest = rest * 18446744073709551616.0;
                power -= 64;
            }
            for (int i = 0; i < 64 && rest >= 2; i++) {
                rest = rest / 2;
                power++;
            }
            for (int i = 0; i < 64 && rest < 1; i++) {
                rest = rest * 2;
                power--;
            }
            long number = (long) (rest * 4503599627370496.0) >> 52 - digits;
            if (power < leastPower) {
                return number >> leastPower - power;
            }
            long first = 1L << digits;
            return (power - leastPower + 1) * first | number & first - 1;
        }

        /** m % part, of an m that isn't less than nothing and is below 64 parts: each step takes off one that is above the half of what is left, which never rounds. */
        static double restOf(double m, double part) {
            double left = m;
            double step = part * 32;
            for (int i = 0; i < 6; i++) {
                left = left >= step ? left - step : left;
                step = step / 2;
            }
            return left;
        }
    }
}
