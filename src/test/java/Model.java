import java.math.BigInteger;
import java.util.ArrayList;
import java.util.List;

/** The document told a second time, slowly: all pairings one by one, big numbers, and the host's own functions. */
final class Model {
    private static final long NO = -4611686018427387904L;
    private static final int NONE = -1, BAD = -2, STATE = -3, FULL = -4, MUCH = -5, NOTHING = -11, PLACE = -12, KIND = -13, SIZE = -14;

    /** What is MUCH; only the model's own methods throw and catch it. */
    private static final class IsMuch extends RuntimeException {
        private static final long serialVersionUID = 1L;
    }

    private record Line(int kind, int figure, int a, int b) {
        int weight(int tide) {
            return weightOf(kind, tide);
        }

        private int weightOf(int ofKind, int tide) {
            return switch (ofKind) {
                case 0 -> figure;
                case 1 -> 2 * weightOf(0, tide);
                case 2 -> Math.max(weightOf(0, tide) - tide, 0);
                case 3 -> weightOf(1, tide) + tide;
                case 4 -> weightOf(2, tide) / 2;
                default -> tide % 2 == 0 ? weightOf(0, tide) : 1;
            };
        }

        boolean isAt(int point) {
            return a == point || b == point;
        }

        boolean meets(Line other) {
            return other.isAt(a) || other.isAt(b);
        }

        boolean isOut(int out) {
            return (out >> a & 1) != 0 || (out >> b & 1) != 0;
        }
    }

    private record Node(int point, int parent, int depth, List<Integer> next) {
    }

    private int points = 0;
    private int tide = 0;
    private List<Line> lines = new ArrayList<>();
    private List<Node> nodes = new ArrayList<>();
    private final Line[][] racks = new Line[3][];
    private final int[] rackKinds = new int[3];
    private final Object[] sheets = new Object[4];
    private List<Line> keptLines = null;
    private int keptPoints = 0;
    private int keptTide = 0;

    private static boolean in(long n, long least, long most) {
        return n >= least && n <= most;
    }

    private boolean isPoint(int p) {
        return in(p, 0, points - 1);
    }

    private boolean isLine(int l) {
        return in(l, 0, lines.size() - 1);
    }

    private static boolean isOut(int out) {
        return in(out, 0, 4095);
    }

    private boolean isFree(int point, int out) {
        return isPoint(point) && isOut(out) && (out >> point & 1) == 0;
    }

    int points(int n) {
        if (!in(n, 0, 12)) {
            return BAD;
        }
        int before = points;
        points = n;
        lines.clear();
        return before;
    }

    int line(int kind, int figure, int a, int b) {
        if (!in(kind, 0, 5) || !in(figure, 0, 9999) || !isPoint(a) || !isPoint(b) || a == b) {
            return BAD;
        }
        if (between(a, b) >= 0) {
            return STATE;
        }
        if (lines.size() == 40) {
            return FULL;
        }
        lines.add(new Line(kind, figure, Math.min(a, b), Math.max(a, b)));
        return lines.size() - 1;
    }

    int told(int line, int what) {
        if (!isLine(line) || !in(what, 0, 4)) {
            return BAD;
        }
        Line l = lines.get(line);
        return new int[] {l.kind, l.figure, l.weight(tide), l.a, l.b}[what];
    }

    int set(int line, int figure) {
        if (!isLine(line) || !in(figure, 0, 9999)) {
            return BAD;
        }
        Line l = lines.get(line);
        lines.set(line, new Line(l.kind, figure, l.a, l.b));
        return l.figure;
    }

    int turns(int line, int kind) {
        if (!isLine(line) || !in(kind, 0, 5)) {
            return BAD;
        }
        Line l = lines.get(line);
        lines.set(line, new Line(kind, l.figure, l.a, l.b));
        return l.kind;
    }

    int drop(int line) {
        if (!isLine(line)) {
            return BAD;
        }
        lines.remove(line);
        return lines.size();
    }

    int tide(int v) {
        if (!in(v, 0, 9)) {
            return BAD;
        }
        int before = tide;
        tide = v;
        return before;
    }

    int between(int a, int b) {
        if (!isPoint(a) || !isPoint(b) || a == b) {
            return BAD;
        }
        for (int i = 0; i < lines.size(); i++) {
            if (lines.get(i).isAt(a) && lines.get(i).isAt(b)) {
                return i;
            }
        }
        return NONE;
    }

    int near(int point, int out) {
        if (!isPoint(point) || !isOut(out)) {
            return BAD;
        }
        int set = 0;
        for (int v = 0; v < points; v++) {
            set |= between(point, v) >= 0 && (out >> v & 1) == 0 ? 1 << v : 0;
        }
        return set;
    }

    // ---- counts

    private static long told64(BigInteger n) {
        if (n.bitLength() > 63) {
            throw new IsMuch();
        }
        return n.longValue();
    }

    private static BigInteger fits(BigInteger n) {
        told64(n);
        return n;
    }

    private static BigInteger big(long n) {
        return BigInteger.valueOf(n);
    }

    private static void collect(List<Line> of, int tide, int next, List<Line> taken, BigInteger worth, BigInteger[] counts) {
        counts[taken.size()] = counts[taken.size()].add(worth);
        for (int i = next; i < of.size(); i++) {
            Line l = of.get(i);
            boolean free = true;
            for (Line t : taken) {
                free &= !t.meets(l);
            }
            if (free) {
                taken.add(l);
                collect(of, tide, i + 1, taken, worth.multiply(big(l.weight(tide))), counts);
                taken.remove(taken.size() - 1);
            }
        }
    }

    private static BigInteger[] countsOf(List<Line> of, int tide) {
        BigInteger[] counts = new BigInteger[7];
        java.util.Arrays.fill(counts, BigInteger.ZERO);
        collect(of, tide, 0, new ArrayList<>(), BigInteger.ONE, counts);
        return counts;
    }

    private List<Line> linesWithout(int out) {
        List<Line> left = new ArrayList<>();
        for (Line l : lines) {
            if (!l.isOut(out)) {
                left.add(l);
            }
        }
        return left;
    }

    private BigInteger[] countsBy(int out) {
        BigInteger[] counts = countsOf(linesWithout(out), tide);
        for (BigInteger c : counts) {
            told64(c);
        }
        return counts;
    }

    private int degree(int out) {
        return Integer.bitCount(((1 << points) - 1) & ~out);
    }

    private BigInteger[] polynomial(int out) {
        BigInteger[] counts = countsBy(out);
        BigInteger[] numbers = new BigInteger[13];
        java.util.Arrays.fill(numbers, BigInteger.ZERO);
        int n = degree(out);
        for (int k = 0; 2 * k <= n; k++) {
            numbers[n - 2 * k] = k % 2 == 0 ? counts[k] : counts[k].negate();
        }
        return numbers;
    }

    private BigInteger[] terms(int out, int rate) {
        BigInteger[] terms = countsBy(out);
        for (int k = 0; k < 7; k++) {
            terms[k] = fits(terms[k].multiply(big(rate).pow(k)));
        }
        return terms;
    }

    private BigInteger moment(int out, int rate, int power) {
        BigInteger[] terms = terms(out, rate);
        BigInteger all = BigInteger.ZERO;
        for (int k = 0; k < 7; k++) {
            all = all.add(terms[k].multiply(big(k).pow(power)));
        }
        return fits(all);
    }

    private static long lowest(BigInteger above, BigInteger below, int part) {
        BigInteger common = above.gcd(below);
        return told64((part == 0 ? above : below).divide(common));
    }

    long counts(int out, int k) {
        if (!isOut(out) || !in(k, 0, 6)) {
            return NO + BAD;
        }
        try {
            return told64(countsBy(out)[k]);
        } catch (IsMuch much) {
            return NO + MUCH;
        }
    }

    long coef(int out, int i) {
        if (!isOut(out) || !in(i, 0, 12)) {
            return NO + BAD;
        }
        try {
            return told64(polynomial(out)[i]);
        } catch (IsMuch much) {
            return NO + MUCH;
        }
    }

    long sum(int out, int rate) {
        if (!isOut(out) || !in(rate, 0, 9)) {
            return NO + BAD;
        }
        try {
            return told64(moment(out, rate, 0));
        } catch (IsMuch much) {
            return NO + MUCH;
        }
    }

    int likely(int out, int rate) {
        if (!isOut(out) || !in(rate, 0, 9)) {
            return BAD;
        }
        try {
            BigInteger[] terms = terms(out, rate);
            int best = 0;
            for (int k = 1; k < 7; k++) {
                best = terms[k].compareTo(terms[best]) > 0 ? k : best;
            }
            return best;
        } catch (IsMuch much) {
            return MUCH;
        }
    }

    long mean(int out, int rate, int part) {
        if (!isOut(out) || !in(rate, 0, 9) || !in(part, 0, 1)) {
            return NO + BAD;
        }
        try {
            return lowest(moment(out, rate, 1), moment(out, rate, 0), part);
        } catch (IsMuch much) {
            return NO + MUCH;
        }
    }

    long spread(int out, int rate, int part) {
        if (!isOut(out) || !in(rate, 0, 9) || !in(part, 0, 1)) {
            return NO + BAD;
        }
        try {
            BigInteger sum = moment(out, rate, 0);
            BigInteger b = moment(out, rate, 1);
            BigInteger a = moment(out, rate, 2);
            return lowest(fits(a.multiply(sum)).subtract(fits(b.multiply(b))), fits(sum.multiply(sum)), part);
        } catch (IsMuch much) {
            return NO + MUCH;
        }
    }

    long meanAs(int out, int rate, int how) {
        if (!isOut(out) || !in(rate, 0, 9) || !in(how, 0, 5)) {
            return NO + BAD;
        }
        try {
            long sum = told64(moment(out, rate, 0));
            long b = told64(moment(out, rate, 1));
            double m = (double) b / sum;
            return switch (how) {
                case 0 -> (long) (m * 1000);
                case 1 -> Float.floatToIntBits((float) m);
                case 2 -> Double.doubleToLongBits(m);
                case 3 -> (int) (m % 1.0 * 1000);
                case 4 -> Double.doubleToLongBits(m % 0.375);
                default -> Float.floatToIntBits((float) m % 0.3f);
            };
        } catch (IsMuch much) {
            return NO + MUCH;
        }
    }

    private static List<Line> lightened(List<Line> of) {
        List<Line> light = new ArrayList<>();
        for (Line l : of) {
            light.add(new Line(0, 1, l.a, l.b));
        }
        return light;
    }

    int most(int out) {
        if (!isOut(out)) {
            return BAD;
        }
        BigInteger[] counts = countsOf(lightened(linesWithout(out)), 0);
        int best = 0;
        for (int k = 0; k < 7; k++) {
            best = counts[k].signum() > 0 ? k : best;
        }
        return best;
    }

    long other(int k) {
        if (!in(k, 0, 6)) {
            return NO + BAD;
        }
        List<Line> missing = new ArrayList<>();
        for (int a = 0; a < points; a++) {
            for (int b = a + 1; b < points; b++) {
                if (between(a, b) == NONE) {
                    missing.add(new Line(0, 1, a, b));
                }
            }
        }
        return told64(countsOf(missing, 0)[k]);
    }

    // ---- alone

    long alone(int point, int out, int rate, int part) {
        if (!isFree(point, out) || !in(rate, 0, 9) || !in(part, 0, 1)) {
            return NO + BAD;
        }
        try {
            return lowest(moment(out | 1 << point, rate, 0), moment(out, rate, 0), part);
        } catch (IsMuch much) {
            return NO + MUCH;
        }
    }

    private void grow(List<Node> into, int point, int parent, List<Integer> way, int out) {
        if (into.size() == 300) {
            throw new IsMuch();
        }
        int at = into.size();
        into.add(new Node(point, parent, way.size(), new ArrayList<>()));
        if (parent >= 0) {
            into.get(parent).next.add(at);
        }
        List<Integer> longer = new ArrayList<>(way);
        longer.add(point);
        for (int v = 0; v < points; v++) {
            if (v != point && between(point, v) >= 0 && (out >> v & 1) == 0 && !longer.contains(v)) {
                grow(into, v, at, longer, out);
            }
        }
    }

    int tree(int point, int out) {
        if (!isFree(point, out)) {
            return BAD;
        }
        try {
            List<Node> grown = new ArrayList<>();
            grow(grown, point, NONE, new ArrayList<>(), out);
            nodes = grown;
            return nodes.size();
        } catch (IsMuch much) {
            return MUCH;
        }
    }

    int node(int k, int what) {
        if (!in(k, 0, nodes.size() - 1)) {
            return PLACE;
        }
        if (!in(what, 0, 3)) {
            return BAD;
        }
        Node n = nodes.get(k);
        return new int[] {n.point, n.parent, n.next.size(), n.depth}[what];
    }

    /** S of a NODE as a and b. */
    private BigInteger[] heavy(int k, int rate) {
        BigInteger a = BigInteger.ONE;
        BigInteger b = BigInteger.ONE;
        for (int j : nodes.get(k).next) {
            BigInteger[] behind = heavy(j, rate);
            BigInteger c = behind[1];
            BigInteger d = behind[0];
            int weight = lines.get(between(nodes.get(k).point, nodes.get(j).point)).weight(tide);
            BigInteger left = fits(a.multiply(d));
            BigInteger right = fits(fits(big(rate).multiply(big(weight)).multiply(c)).multiply(b));
            BigInteger above = fits(left.add(right));
            BigInteger below = fits(b.multiply(d));
            BigInteger common = above.gcd(below);
            a = above.divide(common);
            b = below.divide(common);
        }
        return new BigInteger[] {a, b};
    }

    long share(int k, int rate, int part) {
        if (!in(k, 0, nodes.size() - 1)) {
            return NO + PLACE;
        }
        if (!in(rate, 0, 9) || !in(part, 0, 1)) {
            return NO + BAD;
        }
        for (Node n : nodes) {
            if (n.parent >= 0 && between(n.point, nodes.get(n.parent).point) < 0) {
                return NO + STATE;
            }
        }
        try {
            return told64(heavy(k, rate)[part == 0 ? 1 : 0]);
        } catch (IsMuch much) {
            return NO + MUCH;
        }
    }

    private float cut(int u, int out, int rate, int depth) {
        if (depth == 0) {
            return 1.0f;
        }
        float s = 1.0f;
        for (int v = 0; v < points; v++) {
            if (v != u && between(u, v) >= 0 && (out >> v & 1) == 0) {
                s += (float) (rate * lines.get(between(u, v)).weight(tide)) * cut(v, out | 1 << u, rate, depth - 1);
            }
        }
        return 1.0f / s;
    }

    int cutOff(int point, int out, int rate, int depth) {
        if (!isFree(point, out) || !in(rate, 0, 9) || !in(depth, 0, 5)) {
            return BAD;
        }
        return Float.floatToIntBits(cut(point, out, rate, depth));
    }

    // ---- signs

    int sign(int out, int p, int q) {
        if (!isOut(out) || !in(p, -60, 60) || !in(q, 1, 6)) {
            return BAD;
        }
        try {
            return signBy(polynomial(out), degree(out), p, q);
        } catch (IsMuch much) {
            return MUCH;
        }
    }

    private static int signBy(BigInteger[] numbers, int n, int p, int q) {
        BigInteger v = numbers[n];
        for (int i = 1; i <= n; i++) {
            BigInteger power = fits(big(q).pow(i));
            v = fits(fits(v.multiply(big(p))).add(fits(numbers[n - i].multiply(power))));
        }
        return v.signum();
    }

    int changes(int out, int q, int from, int to) {
        if (!isOut(out) || !in(q, 1, 6) || from > to || !in(from, -60, 60) || !in(to, -60, 60)) {
            return BAD;
        }
        try {
            BigInteger[] numbers = polynomial(out);
            List<Integer> signs = new ArrayList<>();
            for (int p = from; p <= to; p++) {
                int now = signBy(numbers, degree(out), p, q);
                if (now != 0) {
                    signs.add(now);
                }
            }
            int found = 0;
            for (int i = 1; i < signs.size(); i++) {
                found += signs.get(i).equals(signs.get(i - 1)) ? 0 : 1;
            }
            return found;
        } catch (IsMuch much) {
            return MUCH;
        }
    }

    // ---- pairings

    private boolean areLines(long set) {
        return BigInteger.valueOf(set).signum() >= 0 && set >>> lines.size() == 0;
    }

    private boolean pairs(long set) {
        for (int i = 0; i < lines.size(); i++) {
            for (int j = i + 1; j < lines.size(); j++) {
                if ((set >> i & 1) != 0 && (set >> j & 1) != 0 && lines.get(i).meets(lines.get(j))) {
                    return false;
                }
            }
        }
        return true;
    }

    int isPairing(long set) {
        return !areLines(set) ? BAD : pairs(set) ? 1 : 0;
    }

    long worth(long set) {
        if (!areLines(set)) {
            return NO + BAD;
        }
        if (!pairs(set)) {
            return NO + STATE;
        }
        BigInteger all = BigInteger.ONE;
        for (int i = 0; i < lines.size(); i++) {
            all = (set >> i & 1) != 0 ? all.multiply(big(lines.get(i).weight(tide))) : all;
        }
        return all.bitLength() > 63 ? NO + MUCH : all.longValue();
    }

    private void list(int next, int open, int taken, long set, List<Long> into) {
        if (open == 0) {
            into.add(set);
            return;
        }
        for (int i = next; i < lines.size(); i++) {
            if (!lines.get(i).isOut(taken)) {
                list(i + 1, open - 1, taken | 1 << lines.get(i).a | 1 << lines.get(i).b, set | 1L << i, into);
            }
        }
    }

    long listed(int size, int k) {
        if (!in(size, 0, 6)) {
            return NO + BAD;
        }
        List<Long> all = new ArrayList<>();
        list(0, size, 0, 0, all);
        if (k == -1) {
            return all.size();
        }
        if (!in(k, 0, all.size() - 1)) {
            return NO + PLACE;
        }
        all.sort(null);
        return all.get(k);
    }

    long lot(int seed, int odds) {
        if (!in(odds, 0, 10)) {
            return NO + BAD;
        }
        int z = seed;
        long set = 0;
        for (int i = 0; i < lines.size(); i++) {
            if (pairs(set | 1L << i)) {
                z = z * 1103515245 + 12345;
                set |= (z >>> 8) % 10 < odds ? 1L << i : 0;
            }
        }
        return set;
    }

    // ---- racks

    int rack(int r, int kind, int n) {
        if (!in(r, 0, 2) || !in(kind, -1, 5) || kind >= 0 && n > 20) {
            return BAD;
        }
        if (kind >= 0 && n < 0) {
            return SIZE;
        }
        racks[r] = kind < 0 ? null : new Line[n];
        rackKinds[r] = kind;
        return 1;
    }

    int lay(int r, int i, int line) {
        if (!in(r, 0, 2) || !isLine(line)) {
            return BAD;
        }
        if (racks[r] == null) {
            return NOTHING;
        }
        if (!in(i, 0, racks[r].length - 1)) {
            return PLACE;
        }
        int kind = lines.get(line).kind;
        int top = rackKinds[r];
        boolean under = top == 0 || top == kind || top == 1 && kind == 3 || top == 2 && kind == 4;
        if (!under) {
            return KIND;
        }
        racks[r][i] = lines.get(line);
        return kind;
    }

    int of(int r, int i) {
        if (!in(r, 0, 2)) {
            return BAD;
        }
        if (racks[r] == null) {
            return NOTHING;
        }
        if (!in(i, 0, racks[r].length - 1)) {
            return PLACE;
        }
        return racks[r][i] == null ? STATE : racks[r][i].weight(tide);
    }

    // ---- sheets: int[], long[], float[] and double[], by the host's own rules

    int sheet(int s, int sort, int n) {
        if (!in(s, 0, 3) || !in(sort, -1, 3) || sort >= 0 && n > 60) {
            return BAD;
        }
        if (sort >= 0 && n < 0) {
            return SIZE;
        }
        sheets[s] = sort < 0 ? null : sort == 0 ? new int[n] : sort == 1 ? new long[n] : sort == 2 ? new float[n] : new double[n];
        return 1;
    }

    private static int length(Object sheet) {
        return java.lang.reflect.Array.getLength(sheet);
    }

    private static boolean put(Object sheet, int i, long v) {
        if (sheet instanceof int[] ints) {
            if (v != (int) v) {
                return false;
            }
            ints[i] = (int) v;
        } else if (sheet instanceof long[] longs) {
            longs[i] = v;
        } else if (sheet instanceof float[] floats) {
            floats[i] = (float) v;
        } else {
            ((double[]) sheet)[i] = (double) v;
        }
        return true;
    }

    private int fault(int s, int i) {
        return sheets[s] == null ? NOTHING : in(i, 0, length(sheets[s]) - 1) ? 0 : PLACE;
    }

    int cell(int s, int i, long v) {
        if (!in(s, 0, 3)) {
            return BAD;
        }
        if (fault(s, i) != 0) {
            return fault(s, i);
        }
        return put(sheets[s], i, v) ? 1 : MUCH;
    }

    long read(int s, int i, int how) {
        if (!in(s, 0, 3) || !in(how, 0, 4)) {
            return NO + BAD;
        }
        if (fault(s, i) != 0) {
            return NO + fault(s, i);
        }
        if (sheets[s] instanceof int[] ints) {
            int v = ints[i];
            return new long[] {v, v, v, Float.floatToIntBits((float) v), (byte) v}[how];
        }
        if (sheets[s] instanceof long[] longs) {
            long v = longs[i];
            return new long[] {v, (int) v, v, Float.floatToIntBits((float) v), (byte) (int) v}[how];
        }
        if (sheets[s] instanceof float[] floats) {
            float v = floats[i];
            return new long[] {Float.floatToIntBits(v), (int) v, (long) v, Float.floatToIntBits(v), (byte) (int) v}[how];
        }
        double v = ((double[]) sheets[s])[i];
        return new long[] {Double.doubleToLongBits(v), (int) v, (long) v, Float.floatToIntBits((float) v), (byte) (int) v}[how];
    }

    int parts(int s, int i, int m) {
        if (!in(s, 0, 3) || !in(m, 1, 99)) {
            return BAD;
        }
        if (fault(s, i) != 0) {
            return fault(s, i);
        }
        if (sheets[s] instanceof int[] ints) {
            ints[i] /= m;
        } else if (sheets[s] instanceof long[] longs) {
            longs[i] /= m;
        } else if (sheets[s] instanceof float[] floats) {
            floats[i] /= m;
        } else {
            ((double[]) sheets[s])[i] /= m;
        }
        return 1;
    }

    int writes(int s, int out) {
        if (!in(s, 0, 3) || !isOut(out)) {
            return BAD;
        }
        if (sheets[s] == null) {
            return NOTHING;
        }
        try {
            BigInteger[] numbers = polynomial(out);
            for (int i = 0; i <= degree(out); i++) {
                if (i >= length(sheets[s])) {
                    return PLACE;
                }
                if (!put(sheets[s], i, told64(numbers[i]))) {
                    return MUCH;
                }
            }
            return degree(out) + 1;
        } catch (IsMuch much) {
            return MUCH;
        }
    }

    int same(int s, int out) {
        if (!in(s, 0, 3) || !isOut(out)) {
            return BAD;
        }
        if (sheets[s] == null) {
            return NOTHING;
        }
        try {
            BigInteger[] counts = countsBy(out);
            for (int i = 0; i < length(sheets[s]); i++) {
                long due = i < 7 ? counts[i].longValue() : 0;
                boolean alike = sheets[s] instanceof int[] ints ? ints[i] == due
                    : sheets[s] instanceof long[] longs ? longs[i] == due
                    : sheets[s] instanceof float[] floats ? floats[i] == (float) due
                    : ((double[]) sheets[s])[i] == (double) due;
                if (!alike) {
                    return i;
                }
            }
            return NONE;
        } catch (IsMuch much) {
            return MUCH;
        }
    }

    int copy(int from, int i, int to, int j, int n) {
        if (!in(from, 0, 3) || !in(to, 0, 3)) {
            return BAD;
        }
        try {
            System.arraycopy(sheets[from], i, sheets[to], j, n);
            return n;
        } catch (NullPointerException missing) {
            return NOTHING;
        } catch (ArrayStoreException unlike) {
            return KIND;
        } catch (IndexOutOfBoundsException place) {
            return PLACE;
        }
    }

    int build(int s, int from, int n) {
        if (!in(s, 0, 3) || !in(n, 0, 15)) {
            return BAD;
        }
        if (sheets[s] == null) {
            return NOTHING;
        }
        if (!(sheets[s] instanceof int[] ints)) {
            return KIND;
        }
        int came = 0;
        for (long k = 0; k < n; k++) {
            long at = from + 4 * k;
            if (at < 0 || at + 3 >= ints.length) {
                return PLACE;
            }
            int p = (int) at;
            came += line(ints[p], ints[p + 1], ints[p + 2], ints[p + 3]) >= 0 ? 1 : 0;
        }
        return came;
    }

    int image() {
        keptLines = new ArrayList<>(lines);
        keptPoints = points;
        keptTide = tide;
        return lines.size();
    }

    int back() {
        if (keptLines == null) {
            return STATE;
        }
        lines = new ArrayList<>(keptLines);
        points = keptPoints;
        tide = keptTide;
        return lines.size();
    }

    int count(int what) {
        return !in(what, 0, 3) ? BAD : new int[] {points, lines.size(), tide, nodes.size()}[what];
    }
}
