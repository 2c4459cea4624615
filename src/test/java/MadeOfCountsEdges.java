import java.math.BigInteger;

/** What the document says ahead of its promises, part 2 of the terms. */
final class MadeOfCountsEdges {
    private static final int T = Edges.TERMS;
    private static final long MUCH = Check.MUCH;

    private final Edges e;

    MadeOfCountsEdges(Edges e) {
        this.e = e;
    }

    void all() {
        counts();
        countIsMuch();
        polynomial();
        terms();
        termsAreMuch();
        alone();
        tree();
        share();
        shareIsMuch();
        cutOff();
        sign();
        signIsMuch();
    }

    private static PairedLines points(int n) {
        PairedLines x = new PairedLines();
        x.points(n);
        return x;
    }

    private void counts() {
        e.sentence(T, "By OUT: COUNT k (0 .. 6): what all PAIRINGS of k LINES are worth, together.");
        e.range("k", Edges::rich, (x, k) -> x.counts(0, k), 0, 1, 6, 0, Check.BAD);
        e.takes("of two", Edges::rich, x -> x.counts(0, 2), 746);
        e.takes("of three", Edges::rich, x -> x.counts(0, 3), 2964);
        e.takes("of six", () -> Edges.apart(1, 2, 3, 4, 5, 6), x -> x.counts(0, 6), 720);
        e.takes("of six, of WEIGHT 0", () -> Edges.apart(1, 2, 3, 4, 5, 0), x -> x.counts(0, 6), 0);
        e.takes("of five, without a POINT", () -> Edges.apart(1, 2, 3, 4, 5, 6), x -> x.counts(1, 5), 720);
    }

    private void countIsMuch() {
        e.sentence(T, "If one COUNT (of any k) is MUCH, each is, and all that is made of them.");
        for (int k = 0; k < 7; k++) {
            int size = k;
            e.refuses("COUNT " + k, Edges::leastMuch, x -> x.counts(0, size), MUCH);
            // five of 8192, 8192, 8192, 4096 and 4096 are 2 ^ 63, six are none
            e.refuses("COUNT 5 is: COUNT " + k, () -> Edges.apart(8192, 8192, 8192, 4096, 4096, 0), x -> x.counts(0, size), MUCH);
        }
        e.takes("COUNT 5 just isn't", () -> Edges.apart(8192, 8192, 8192, 4096, 4095, 0), x -> x.counts(0, 5), 4095L << 51);
        for (int i = 0; i <= 12; i++) {
            int times = i;
            e.refuses("coef at " + i, Edges::leastMuch, x -> x.coef(0, times), MUCH);
        }
        for (int r = 0; r <= 9; r++) {
            int rate = r;
            e.refuses("sum by " + r, Edges::leastMuch, x -> x.sum(0, rate), MUCH);
            e.refuses("likely by " + r, Edges::leastMuch, x -> x.likely(0, rate), Edges.MUCH);
            e.refuses("mean by " + r, Edges::leastMuch, x -> x.mean(0, rate, 0), MUCH);
            e.refuses("spread by " + r, Edges::leastMuch, x -> x.spread(0, rate, 1), MUCH);
            e.refuses("meanAs by " + r, Edges::leastMuch, x -> x.meanAs(0, rate, 0), MUCH);
            e.refuses("alone by " + r, Edges::leastMuch, x -> x.alone(11, 0, rate, 1), MUCH);
        }
        e.refuses("sign", Edges::leastMuch, x -> x.sign(0, 0, 1), Edges.MUCH);
        e.refuses("changes", Edges::leastMuch, x -> x.changes(0, 1, 0, 0), Edges.MUCH);
        e.refuses("writes", MadeOfCountsEdges::muchAndSheet, x -> x.writes(0, 0), Edges.MUCH);
        e.refuses("same", MadeOfCountsEdges::muchAndSheet, x -> x.same(0, 0), Edges.MUCH);
        e.takes("most is made of none", Edges::leastMuch, x -> x.most(0), 6);
        e.takes("another OUT, other COUNTS", Edges::leastMuch, x -> x.counts(3, 5), 1L << 53);
    }

    private static PairedLines muchAndSheet() {
        PairedLines x = Edges.leastMuch();
        x.sheet(0, 1, 13);
        x.cell(0, 0, 1);
        return x;
    }

    private void polynomial() {
        e.sentence(T, "n: how many POINTS aren't OUT.");
        e.takes("all", Edges::rich, x -> x.coef(0, 7), 1);
        e.takes("none", Edges::rich, x -> x.coef(127, 0), 1);
        e.takes("one", Edges::rich, x -> x.coef(126, 1), 1);
        e.takes("twelve", () -> points(12), x -> x.coef(0, 12), 1);
        e.takes("eleven", () -> points(12), x -> x.coef(1, 11), 1);
        e.sentence(T, "THE POLYNOMIAL has, for each k up to half of n (cut), COUNT k at x n - 2k times,");
        for (int n = 0; n <= 12; n++) {
            for (int i = 0; i <= 12; i++) {
                int degree = n;
                int times = i;
                int k = (n - i) / 2;
                boolean has = i <= n && (n - i) % 2 == 0;
                e.takes(n + " POINTS, at x " + i + " times", () -> evenApart(degree), x -> x.coef(0, times), has ? symmetric(n / 2, k) : 0);
            }
        }
        e.sentence(T, "from nothing on with signs by turns (k even: as it is; odd: less than nothing);");
        long[] due = {1, -6, 15, -20, 15, -6, 1};
        for (int k = 0; k <= 6; k++) {
            int size = k;
            e.takes("COUNT " + k, () -> Edges.apart(1, 1, 1, 1, 1, 1), x -> x.coef(0, 12 - 2 * size), due[size]);
        }
        e.sentence(T, "else 0.");
        for (int i = 1; i < 12; i += 2) {
            int times = i;
            e.takes("at x " + i + " times", () -> Edges.apart(1, 1, 1, 1, 1, 1), x -> x.coef(0, times), 0);
        }
        e.takes("behind n", Edges::rich, x -> x.coef(0, 8), 0);
        e.takes("far behind n", PairedLines::new, x -> x.coef(0, 12), 0);
    }

    /** n POINTS, with LINES of WEIGHT 2 that do not meet, as many as can be. */
    private static PairedLines evenApart(int n) {
        PairedLines x = points(n);
        for (int i = 0; i < n / 2; i++) {
            x.line(0, 2, 2 * i, 2 * i + 1);
        }
        return x;
    }

    /** The number at COUNT k of that many LINES of WEIGHT 2, with its sign. */
    private static long symmetric(int lines, int k) {
        long ways = 1;
        for (int i = 0; i < k; i++) {
            ways = ways * (lines - i) / (i + 1);
        }
        return (k % 2 == 0 ? 1 : -1) * (ways << k);
    }

    private void terms() {
        e.sentence(T, "By a RATE (0 .. 9): TERM k: COUNT k times RATE k times (RATE 0 times: 1).");
        e.range("RATE", () -> Edges.apart(1, 1), (x, rate) -> x.sum(0, rate), 0, 1, 9, 100, Check.BAD);
        e.takes("RATE 0, COUNT 0", Edges::rich, x -> x.sum(0, 0), 1);
        e.takes("RATE 9, six times", () -> Edges.apart(1, 1, 1, 1, 1, 1), x -> x.sum(0, 9), 1000000);
        e.sentence(T, "SUM: all TERMS.");
        e.takes("SUM", Edges::rich, x -> x.sum(0, 2), 1 + 2 * 51 + 4 * 746 + 8 * 2964);
        e.sentence(T, "B: all TERMS, each k times.");
        e.takes("B", Edges::rich, x -> x.mean(0, 2, 0), 102 + 2 * 2984 + 3 * 23712);
        e.sentence(T, "A: all TERMS, each k * k times.");
        Apart host = new Apart(2, 1, 2, 3);
        BigInteger above = host.all(2).multiply(host.all(0)).subtract(host.all(1).pow(2));
        e.takes("A", () -> Edges.apart(1, 2, 3), x -> x.spread(0, 2, 0), Apart.above(above, host.all(0).pow(2)));
        e.sentence(T, "MEAN: B of SUM.");
        e.takes("below", Edges::rich, x -> x.mean(0, 2, 1), 26799);
        e.sentence(T, "SPREAD: (A times SUM less B times B) of (SUM times SUM).");
        e.takes("below", () -> Edges.apart(1, 2, 3), x -> x.spread(0, 2, 1), Apart.above(host.all(0).pow(2), above));
        // of LINES that do not meet it is w of (1 + w) * (1 + w) for each: 2 of 9, 4 of 25, 6 of 49
        e.takes("above, by hand", () -> Edges.apart(1, 2, 3), x -> x.spread(0, 2, 0), 2 * 25 * 49 + 4 * 9 * 49 + 6 * 9 * 25);
    }

    private static PairedLines five(int figure) {
        return Edges.apart(1000, 1000, 1000, 1000, 1000, figure);
    }

    private void termsAreMuch() {
        e.sentence(T, "Are TERMS, these, or such a product MUCH, what is made of them is.");
        // by RATE 2 TERM 6 of the first is 2 ^ 63, of the second just below
        Edges.Maker much = () -> Edges.apart(1024, 1024, 1024, 512, 512, 512);
        Edges.Maker not = () -> Edges.apart(1024, 1024, 1024, 512, 512, 511);
        e.refuses("TERM 6: sum", much, x -> x.sum(0, 2), MUCH);
        e.refuses("TERM 6: likely", much, x -> x.likely(0, 2), Edges.MUCH);
        e.refuses("TERM 6: mean", much, x -> x.mean(0, 2, 0), MUCH);
        e.refuses("TERM 6: meanAs", much, x -> x.meanAs(0, 2, 2), MUCH);
        e.refuses("TERM 6: spread", much, x -> x.spread(0, 2, 0), MUCH);
        e.refuses("TERM 6: alone", much, x -> x.alone(0, 0, 2, 0), MUCH);
        e.takes("TERM 6 isn't: likely", not, x -> x.likely(0, 2), 6);
        e.takes("counts are not made of TERMS", much, x -> x.counts(0, 6), 1L << 57);
        e.takes("nor are they by another RATE", much, x -> x.likely(0, 1), 6);
        e.refuses("SUM: sum", Edges::greatestCount, x -> x.sum(0, 1), MUCH);
        e.refuses("SUM: mean", Edges::greatestCount, x -> x.mean(0, 1, 1), MUCH);
        e.refuses("SUM: alone", Edges::greatestCount, x -> x.alone(0, 0, 1, 0), MUCH);
        e.takes("SUM: likely is not made of it", Edges::greatestCount, x -> x.likely(0, 1), 6);
        int last = 0;
        while (Apart.fits(new Apart(1, 1000, 1000, 1000, 1000, 1000, last + 1).all(2))) {
            last++;
        }
        // behind it A is MUCH, B and SUM are not
        int figure = last + 1;
        e.holds("B fits", Apart.fits(new Apart(1, 1000, 1000, 1000, 1000, 1000, figure).all(1)));
        e.refuses("A: spread", () -> five(figure), x -> x.spread(0, 1, 0), MUCH);
        e.takes("A: mean is not made of it", () -> five(figure), x -> x.mean(0, 1, 1), (1 + figure) * 1001L / gcd(figure));
        e.refuses("A isn't, but its product: spread", () -> five(figure - 1), x -> x.spread(0, 1, 0), MUCH);
    }

    /** Of a net of five LINES of 1000 and one of a FIGURE: MEAN is 5000 of 1001 and that FIGURE of one more, taken to (1 + FIGURE) * 1001 below the line. */
    private static long gcd(int figure) {
        BigInteger below = BigInteger.valueOf((1 + figure) * 1001L);
        BigInteger above = BigInteger.valueOf(5000L * (1 + figure) + figure * 1001L);
        return below.gcd(above).longValueExact();
    }

    private void alone() {
        e.sentence(T, "ALONE of a POINT that isn't OUT, by RATE: SUM without it too, of SUM.");
        e.takes("above", () -> Check.path(3), x -> x.alone(0, 0, 2, 0), 5);
        e.takes("below", () -> Check.path(3), x -> x.alone(0, 0, 2, 1), 7);
        e.takes("with another one OUT", () -> Check.path(3), x -> x.alone(0, 4, 2, 1), 3);
        e.refuses("a POINT that is OUT", () -> Check.path(3), x -> x.alone(0, 1, 2, 1), Check.BAD);
        e.takes("by RATE 0", () -> Check.path(3), x -> x.alone(0, 0, 0, 1), 1);
    }

    /** Three POINTS with all LINES, come in another order than the POINTS, and one that hangs from the last; POINT 4 has no LINES. */
    private static PairedLines triangle() {
        PairedLines x = points(5);
        x.line(0, 1, 2, 3);
        x.line(0, 1, 2, 1);
        x.line(0, 1, 2, 0);
        x.line(0, 1, 1, 0);
        return x;
    }

    private void looksLike(String name, PairedLines x, int point, int out, int... spots) {
        e.due(name, x.tree(point, out), spots.length);
        for (int k = 0; k < spots.length; k++) {
            e.due(name + ", NODE " + k, x.node(k, 0), spots[k]);
        }
        e.due(name + ", no more", x.node(spots.length, 0), Edges.PLACE);
    }

    private void tree() {
        e.sentence(T, "THE TREE of a POINT u that isn't OUT: NODES in the order in which they are come to: u;");
        looksLike("u alone", triangle(), 4, 0, 4);
        looksLike("u, all else OUT", triangle(), 2, 4091, 2);
        e.refuses("u is OUT", MadeOfCountsEdges::triangle, x -> x.tree(2, 4), Edges.BAD);
        e.sentence(T, "behind a NODE at v, for each POINT by numbers that has a LINE with v, isn't OUT and isn't on the way from u to this NODE, the NODE at it and all that comes behind that one.");
        looksLike("by numbers", triangle(), 2, 0, 2, 0, 1, 1, 0, 3);
        looksLike("one OUT", triangle(), 2, 1, 2, 1, 3);
        looksLike("from the end", triangle(), 3, 0, 3, 2, 0, 1, 1, 0);
        looksLike("from the first", triangle(), 0, 0, 0, 1, 2, 3, 2, 1, 3);
        e.sentence(T, "(As a 301st one would come: MUCH; then THE TREE stays.)");
        PairedLines x = nearly(1);
        e.due("300", x.tree(0, 0), 300);
        e.due("the last", x.node(299, 0), 9);
        x.line(0, 1, 0, 10);
        e.due("301", x.tree(0, 0), Edges.MUCH);
        e.due("it stays", x.count(3), 300);
        e.due("its last NODE too", x.node(299, 0), 9);
        e.due("its SHARES too", x.share(299, 1, 1), 1);
        e.due("from another POINT, far more", x.tree(4, 0), Edges.MUCH);
        e.due("its first NODE stays", x.node(0, 0), 0);
        e.due("its second one", x.node(1, 0), 2);
    }

    /** 299 NODES from POINT 0, and one for each that hangs there. */
    private static PairedLines nearly(int hanging) {
        PairedLines x = points(12);
        for (int a = 0; a < 6; a++) {
            for (int b = a + 1; b < 6; b++) {
                if (!(a == 0 && b == 1) && !(a == 2 && b == 3)) {
                    x.line(0, 1, a, b);
                }
            }
        }
        for (int v = 6; v < 9; v++) {
            x.line(0, 1, 2, v);
        }
        for (int i = 0; i < hanging; i++) {
            x.line(0, 1, 0, 9 + i);
        }
        return x;
    }

    private void share() {
        e.sentence(T, "By it SHARE of a NODE, by RATE: 1 of S; S is 1 at first,");
        PairedLines x = Check.path(3);
        x.tree(1, 0);
        e.due("none behind it, above", x.share(2, 9, 0), 1);
        e.due("none behind it, below", x.share(2, 9, 1), 1);
        e.sentence(T, "and for each NODE right behind it, one by one, S is more by RATE times the WEIGHT of the LINE times that one's SHARE:");
        e.due("two behind it, above", x.share(0, 9, 0), 1);
        e.due("two behind it, below", x.share(0, 9, 1), 1 + 9 + 18);
        x = Check.path(4);
        x.tree(0, 0);
        // SHARES from the last on: 1, 1 of 4, 1 of 1 + 2 of 4, 1 of 1 + 2 of 3
        e.due("one behind the other, above", x.share(0, 1, 0), 3);
        e.due("one behind the other, below", x.share(0, 1, 1), 5);
        e.sentence(T, "S is a fraction a of b, in lowest terms always;");
        // 0 times what is 1 of 10 ^ 13 and more, three times: not in lowest terms b would be MUCH
        x = points(10);
        for (int v = 0; v < 3; v++) {
            x.line(0, 0, 0, 3 * v + 1);
            x.line(0, 9999, 3 * v + 1, 3 * v + 2);
            x.line(0, 9999, 3 * v + 2, 3 * v + 3);
        }
        x.tree(0, 0);
        e.due("S of those behind", x.share(1, 9, 1), 2L * 89991 + 1);
        e.due("1 of 1, above", x.share(0, 9, 0), 1);
        e.due("1 of 1, below", x.share(0, 9, 1), 1);
        e.sentence(T, "it becomes (a times d, and RATE times WEIGHT times c times b) of (b times d), c of d being the SHARE, and that in lowest terms;");
        x = points(5);
        x.line(0, 2, 0, 1);
        x.line(0, 3, 1, 2);
        x.line(0, 5, 0, 3);
        x.line(0, 4, 3, 4);
        x.tree(0, 0);
        // 1 + 2 of 4 is 3 of 2; and 5 of 5 more is 5 of 2
        e.due("above", x.share(0, 1, 0), 2);
        e.due("below", x.share(0, 1, 1), 5);
    }

    /** The S of POINT 0 by RATE 9 is made of one SHARE: 2915206271817841 and 9 * figure * 728829912599713, of 2915206271817841. */
    private static PairedLines way(int figure, int ahead) {
        PairedLines x = points(9);
        x.line(0, ahead, 8, 0);
        x.line(0, figure, 0, 1);
        for (int v = 1; v < 7; v++) {
            x.line(0, 9999, v, v + 1);
        }
        x.tree(8, 0);
        return x;
    }

    /** S of POINT 0 is 728829912599713 of 24295500208 by its first SHARE, the second one is 1 of 1 + 9 * figure, 0 times. */
    private static PairedLines secondByNothing(int figure) {
        PairedLines x = points(8);
        for (int v = 0; v < 5; v++) {
            x.line(0, 9999, v, v + 1);
        }
        x.line(0, 0, 0, 6);
        x.line(0, figure, 6, 7);
        x.tree(0, 0);
        return x;
    }

    /** S of POINT 0 is 729048572101585 of 728829912599713 by its first SHARE, the second one is 1 of 10, 9 * figure times. */
    private static PairedLines secondByMuch(int figure) {
        PairedLines x = points(9);
        x.line(0, 1, 0, 1);
        for (int v = 1; v < 6; v++) {
            x.line(0, 9999, v, v + 1);
        }
        x.line(0, figure, 0, 7);
        x.line(0, 1, 7, 8);
        x.tree(0, 0);
        return x;
    }

    private void shareIsMuch() {
        e.sentence(T, "if one of these products (from left to right) or the sum is MUCH, that SHARE is,");
        e.takes("all fit, above", () -> way(1405, 0), x -> x.share(1, 9, 0), 2915206271817841L);
        e.takes("all fit, below", () -> way(1405, 0), x -> x.share(1, 9, 1), 9218969451095188726L);
        e.refuses("the sum is, no product", () -> way(1406, 0), x -> x.share(1, 9, 0), MUCH);
        e.refuses("RATE times WEIGHT times c is", () -> way(1407, 0), x -> x.share(1, 9, 0), MUCH);
        e.takes("a times d fits, above", () -> secondByNothing(1406), x -> x.share(0, 9, 0), 24295500208L);
        e.takes("a times d fits, below", () -> secondByNothing(1406), x -> x.share(0, 9, 1), 728829912599713L);
        e.refuses("a times d is, the other is 0", () -> secondByNothing(1407), x -> x.share(0, 9, 0), MUCH);
        e.takes("times b it fits, above", () -> secondByMuch(1405), x -> x.share(0, 9, 0), 1457659825199426L);
        e.takes("times b it fits, below", () -> secondByMuch(1405), x -> x.share(0, 9, 1), 1844668946108877347L);
        e.refuses("times b the sum is", () -> secondByMuch(1406), x -> x.share(0, 9, 0), MUCH);
        e.refuses("times b it is", () -> secondByMuch(1407), x -> x.share(0, 9, 0), MUCH);
        e.takes("the sum is 2 ^ 63 and more by 1 more LINE", () -> way(1405, 0), x -> x.share(0, 9, 1), 1);
        e.refuses("the sum is 2 ^ 63 and more by 1 more LINE of FIGURE 1", () -> way(1405, 1), x -> x.share(0, 9, 1), MUCH);
        e.sentence(T, "and each that is made by it.");
        e.refuses("though 0 times", () -> way(1406, 0), x -> x.share(0, 9, 0), MUCH);
        e.refuses("times 1", () -> way(1406, 1), x -> x.share(0, 9, 1), MUCH);
        e.takes("not those it is made of", () -> way(1406, 0), x -> x.share(2, 9, 1), 2915206271817841L);
        e.takes("by RATE 0 none is", () -> way(9999, 9999), x -> x.share(0, 0, 1), 1);
    }

    private void cutOff() {
        e.sentence(T, "CUT OFF, at depth d (0 .. 5), of a POINT u that isn't OUT: the same by floats, without THE TREE: at depth 0 1.0f;");
        int one = Float.floatToIntBits(1.0f);
        e.range("depth", () -> Edges.apart(1), (x, depth) -> x.cutOff(0, 0, 1, depth), 0, one, 5, Float.floatToIntBits(0.5f), Edges.BAD);
        e.refuses("a POINT that is OUT", () -> Edges.apart(1), x -> x.cutOff(0, 1, 1, 0), Edges.BAD);
        e.takes("at depth 0", Edges::forty, x -> x.cutOff(0, 0, 9, 0), one);
        PairedLines x = Edges.forty();
        x.cutOff(0, 0, 9, 5);
        e.due("no TREE is made", x.count(3), 0);
        e.sentence(T, "else 1.0f / s, s being 1.0f at first and, for each POINT v by numbers that has a LINE with u, and isn't OUT, more by (float) (RATE times WEIGHT) times CUT OFF of v, at depth d - 1, with u OUT too (all as floats).");
        // two that are light come to 1 first and are seen in the sum; behind the heavy one each would be lost
        float light = 9.0f * (1.0f / (1.0f + 2250.0f));
        float due = 1.0f / (1.0f + light + light + 179982.0f);
        e.holds("it matters", due != 1.0f / (1.0f + 179982.0f + light + light));
        e.takes("the order is that of numbers", MadeOfCountsEdges::lightAndHeavy, y -> y.cutOff(2, 0, 9, 2), Float.floatToIntBits(due));
        float third = 1.0f + 3.0f * (1.0f / (1.0f + 18.0f * (1.0f / (1.0f + 1.0f * 1.0f))));
        e.takes("u is OUT further on", Edges::rich, y -> y.cutOff(2, 3, 1, 3), Float.floatToIntBits(1.0f / third));
        e.takes("at depth 5 a sixth LINE does nothing", () -> Check.path(7), y -> y.set(5, 9) - 6 + y.cutOff(0, 0, 1, 5), Check.path(7).cutOff(0, 0, 1, 5));
        e.takes("one that is OUT", Edges::rich, y -> y.cutOff(2, 10, 9, 5), one);
    }

    /** From POINT 2 light LINES to 0 and 1, behind which others stand, and a heavy one to 3; the heavy one came first. */
    private static PairedLines lightAndHeavy() {
        PairedLines x = points(6);
        x.line(1, 9999, 2, 3);
        x.line(0, 1, 2, 1);
        x.line(0, 1, 2, 0);
        x.line(0, 250, 0, 4);
        x.line(0, 250, 1, 5);
        return x;
    }

    private void sign() {
        e.sentence(T, "SIGN at p of q: of THE POLYNOMIAL, there, times q n times:");
        e.takes("5 of 2 above 2", () -> Edges.apart(4), x -> x.sign(0, 5, 2), 1);
        e.takes("4 of 2 is 2", () -> Edges.apart(4), x -> x.sign(0, 4, 2), 0);
        e.takes("3 of 2 below 2", () -> Edges.apart(4), x -> x.sign(0, 3, 2), -1);
        e.sentence(T, "v is the number at x n times;");
        e.takes("n is 0", () -> Edges.apart(4), x -> x.sign(3, 60, 6), 1);
        e.sentence(T, "then for i from 1 to n v becomes v times p, and the number at x n - i times, times (q i times);");
        e.takes("n is 1", () -> points(1), x -> x.sign(0, -60, 6), -1);
        e.takes("n is 1, at 0", () -> points(1), x -> x.sign(0, 0, 6), 0);
        // x * x * x - 9 * x: 0 at -3, 0, 3
        for (int p = -60; p <= 60; p++) {
            int at = p;
            e.takes("x * x * x - 9 * x at " + p + " of 6", MadeOfCountsEdges::nine, x -> x.sign(0, at, 6), Long.signum((long) at * at * at - 9L * 36 * at));
        }
        e.sentence(T, "q i times is made from 1 by i products.");
        e.takes("6 twelve times", () -> Edges.apart(1, 1, 1, 1, 1, 1), x -> x.sign(0, 5, 6), 1);
        e.takes("6 ten times", () -> Edges.apart(1, 1, 1, 1, 1), x -> x.sign(0, 5, 6), -1);
        e.takes("6 of 6 is 1", () -> Edges.apart(1, 1, 1, 1, 1, 1), x -> x.sign(0, 6, 6), 0);
    }

    private static PairedLines nine() {
        PairedLines x = points(3);
        x.line(0, 9, 0, 2);
        return x;
    }

    /** Eleven POINTS: the number at 32 is 2 ^ 63, at -32 it is -2 ^ 63. */
    private static PairedLines eleven() {
        PairedLines x = points(11);
        Edges.layApart(x, 5120, 5120, 5120, 5120, 0);
        return x;
    }

    private void signIsMuch() {
        e.sentence(T, "Is one of all these products and sums MUCH, it is.");
        e.takes("v times p is -2 ^ 63", MadeOfCountsEdges::eleven, x -> x.sign(0, -32, 1), -1);
        e.refuses("v times p is 2 ^ 63", MadeOfCountsEdges::eleven, x -> x.sign(0, 32, 1), Edges.MUCH);
        e.takes("the number times q ten times is -2 ^ 63", () -> Edges.apart(2048, 2048, 2048, 1024, 1024), x -> x.sign(0, 0, 2), -1);
        e.refuses("it is beyond", () -> Edges.apart(2048, 2048, 2048, 1024, 1025), x -> x.sign(0, 0, 2), Edges.MUCH);
        e.takes("the number times q twelve times fits", () -> Edges.apart(511, 512, 512, 256, 256, 256), x -> x.sign(0, 0, 2), 1);
        e.refuses("it is 2 ^ 63", () -> Edges.apart(512, 512, 512, 256, 256, 256), x -> x.sign(0, 0, 2), Edges.MUCH);
        for (int p = -48; p <= 48; p += 96) {
            int at = p;
            e.takes("the sum fits", () -> Edges.apart(256, 256, 256, 256, 2815, 3328), x -> x.sign(0, at, 1), 1);
            e.refuses("the sum is 2 ^ 63", () -> Edges.apart(256, 256, 256, 256, 2816, 3328), x -> x.sign(0, at, 1), Edges.MUCH);
            e.takes("the sum is -2 ^ 63", () -> Edges.apart(256, 256, 10496, 18688, 18688), x -> x.sign(0, at, 1), -1);
            e.refuses("the sum is beyond", () -> Edges.apart(256, 256, 10496, 18688, 18690), x -> x.sign(0, at, 1), Edges.MUCH);
            e.takes("of 2 the sum fits", () -> Edges.apart(64, 64, 64, 64, 703, 832), x -> x.sign(0, at, 2), 1);
            e.refuses("of 2 the sum is 2 ^ 63", () -> Edges.apart(64, 64, 64, 64, 704, 832), x -> x.sign(0, at, 2), Edges.MUCH);
            e.takes("of 2 the sum is -2 ^ 63", () -> Edges.apart(64, 64, 2624, 4672, 4672), x -> x.sign(0, at, 2), -1);
            e.refuses("of 2 the sum is beyond", () -> Edges.apart(64, 64, 2624, 4672, 4673), x -> x.sign(0, at, 2), Edges.MUCH);
        }
        e.refuses("39 twelve times", () -> points(12), x -> x.sign(0, 39, 1), Edges.MUCH);
        e.takes("38 twelve times isn't", () -> points(12), x -> x.sign(0, 38, 1), 1);
    }
}
