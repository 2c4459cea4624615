import java.math.BigInteger;

/** Promises 11 to 19. */
final class CountsEdges {
    private static final long BAD = Check.BAD;
    private static final long MUCH = Check.MUCH;
    private static final long GREATEST = Long.MAX_VALUE;

    private final Edges e;

    CountsEdges(Edges e) {
        this.e = e;
    }

    void all() {
        counts();
        coef();
        sum();
        likely();
        mean();
        spread();
        meanAs();
        meanByHost();
        most();
        other();
    }

    private void counts() {
        e.sentence(11, "COUNT k.");
        long[] due = {1, 51, 746, 2964, 0, 0, 0};
        for (int k = 0; k < 7; k++) {
            int size = k;
            e.takes("COUNT " + k, Edges::rich, x -> x.counts(0, size), due[size]);
            e.takes("COUNT " + k + ", all OUT", Edges::rich, x -> x.counts(4095, size), size == 0 ? 1 : 0);
            e.takes("COUNT " + k + " of no POINTS", PairedLines::new, x -> x.counts(0, size), size == 0 ? 1 : 0);
        }
        e.takes("of six LINES", Edges::justNotMuch, x -> x.counts(0, 6), 2047L << 52);
        e.sentence(11, "BAD;");
        e.range("k", Edges::rich, (x, k) -> x.counts(0, k), 0, 1, 6, 0, BAD);
        e.out("counts", Edges::rich, (x, out) -> x.counts(out, 1), 51, 0, BAD);
        e.refuses("ahead of MUCH: k", Edges::leastMuch, x -> x.counts(0, 7), BAD);
        e.refuses("ahead of MUCH: out", Edges::leastMuch, x -> x.counts(4096, 6), BAD);
        e.sentence(11, "MUCH.");
        e.takes("2 ^ 63 - 1 is not", Edges::greatestCount, x -> x.counts(0, 6), GREATEST);
        e.takes("2 ^ 63 - 1 of five is not", Edges::greatestOddCount, x -> x.counts(0, 5), GREATEST);
        e.refuses("2 ^ 63 is", Edges::leastMuch, x -> x.counts(0, 6), MUCH);
        e.refuses("2 ^ 63 of six is: so is COUNT 0", Edges::leastMuch, x -> x.counts(0, 0), MUCH);
        e.takes("not with a POINT OUT", Edges::leastMuch, x -> x.counts(1, 5), 1L << 53);
    }

    private void coef() {
        e.sentence(12, "The number that THE POLYNOMIAL has at x i times (0 .. 12).");
        long[] due = {0, -2964, 0, 746, 0, -51, 0, 1, 0, 0, 0, 0, 0};
        for (int i = 0; i <= 12; i++) {
            int times = i;
            e.takes("at x " + i + " times", Edges::rich, x -> x.coef(0, times), due[times]);
            e.takes("of no POINTS, at x " + i + " times", PairedLines::new, x -> x.coef(0, times), times == 0 ? 1 : 0);
            e.takes("all OUT, at x " + i + " times", Edges::rich, x -> x.coef(4095, times), times == 0 ? 1 : 0);
        }
        e.takes("of twelve POINTS", Edges::justNotMuch, x -> x.coef(0, 12), 1);
        e.takes("of twelve POINTS, one OUT", Edges::justNotMuch, x -> x.coef(2048, 12), 0);
        e.sentence(12, "BAD;");
        e.range("i", Edges::rich, (x, i) -> x.coef(0, i), 0, 0, 12, 0, BAD);
        e.out("coef", Edges::rich, (x, out) -> x.coef(out, 5), -51, 0, BAD);
        e.refuses("ahead of MUCH: i", Edges::leastMuch, x -> x.coef(0, 13), BAD);
        e.refuses("ahead of MUCH: out", Edges::leastMuch, x -> x.coef(-1, 0), BAD);
        e.sentence(12, "MUCH.");
        e.takes("2 ^ 63 - 1", Edges::greatestCount, x -> x.coef(0, 0), GREATEST);
        e.takes("1 - 2 ^ 63", Edges::greatestOddCount, x -> x.coef(0, 0), -GREATEST);
        for (int i = 0; i <= 12; i++) {
            int times = i;
            e.refuses("at x " + i + " times", Edges::leastMuch, x -> x.coef(0, times), MUCH);
        }
    }

    /** Three ways of three LINES each, whose SUMS (1 + a) * (1 + c) + b are 649657, 649159 and 21870289: one times the other 2 ^ 63 - 1. */
    private static PairedLines greatestSum(int more) {
        PairedLines x = new PairedLines();
        x.points(12);
        int[] figures = {805, 21, 805, 0, 804, 329, 805, 0, 4675, 5313 + more, 4675};
        for (int a = 0; a < 11; a++) {
            if (a % 4 != 3) {
                x.line(0, figures[a], a, a + 1);
            }
        }
        return x;
    }

    /** By RATE 2 its TERM 6 is 2 ^ 63. */
    private static PairedLines muchByTwo(int less) {
        return Edges.apart(1024, 1024, 1024, 512, 512, 512 - less);
    }

    private void sum() {
        e.sentence(13, "SUM.");
        e.takes("rate 0", Edges::rich, x -> x.sum(0, 0), 1);
        e.takes("rate 1", Edges::rich, x -> x.sum(0, 1), 3762);
        e.takes("rate 9", Edges::rich, x -> x.sum(0, 9), 1 + 9 * 51 + 81 * 746 + 729 * 2964);
        e.takes("of no POINTS", PairedLines::new, x -> x.sum(0, 9), 1);
        e.sentence(13, "BAD;");
        e.range("rate", Edges::rich, (x, rate) -> x.sum(0, rate), 0, 1, 9, 2221642, BAD);
        e.out("sum", Edges::rich, (x, out) -> x.sum(out, 1), 3762, 1, BAD);
        e.refuses("ahead of MUCH: rate", Edges::leastMuch, x -> x.sum(0, 10), BAD);
        e.refuses("ahead of MUCH: out", Edges::leastMuch, x -> x.sum(4096, 0), BAD);
        e.sentence(13, "MUCH.");
        e.takes("2 ^ 63 - 1 is not", () -> greatestSum(0), x -> x.sum(0, 1), GREATEST);
        e.refuses("a little more is", () -> greatestSum(1), x -> x.sum(0, 1), MUCH);
        e.refuses("TERMS fit, SUM doesn't", Edges::greatestCount, x -> x.sum(0, 1), MUCH);
        e.refuses("TERM 6 is 2 ^ 63", () -> muchByTwo(0), x -> x.sum(0, 2), MUCH);
        e.takes("by rate 1 it isn't", () -> muchByTwo(0), x -> x.sum(0, 1), 1025L * 1025 * 1025 * 513 * 513 * 513);
        e.refuses("COUNT 6 is, by rate 0", Edges::leastMuch, x -> x.sum(0, 0), MUCH);
    }

    private void likely() {
        e.sentence(14, "The k whose TERM is greatest,");
        e.takes("rate 0", Edges::rich, x -> x.likely(0, 0), 0);
        e.takes("rate 1", Edges::rich, x -> x.likely(0, 1), 3);
        e.takes("all OUT", Edges::rich, x -> x.likely(4095, 9), 0);
        e.takes("six", () -> Edges.apart(7, 7, 7, 7, 7, 7), x -> x.likely(0, 1), 6);
        e.takes("of no POINTS", PairedLines::new, x -> x.likely(0, 9), 0);
        e.sentence(14, "of like ones the least.");
        e.takes("0 and 1", () -> Edges.apart(1), x -> x.likely(0, 1), 0);
        e.takes("1 and 2", () -> Edges.apart(2, 2), x -> x.likely(0, 1), 1);
        e.takes("5 and 6", () -> Edges.apart(6, 6, 6, 6, 6, 6), x -> x.likely(0, 1), 5);
        e.takes("LINES of WEIGHT 0", () -> Edges.apart(0, 0), x -> x.likely(0, 9), 0);
        e.sentence(14, "BAD;");
        e.range("rate", Edges::rich, (x, rate) -> x.likely(0, rate), 0, 0, 9, 3, Edges.BAD);
        e.out("likely", Edges::rich, (x, out) -> x.likely(out, 1), 3, 0, Edges.BAD);
        e.refuses("ahead of MUCH: rate", Edges::leastMuch, x -> x.likely(0, -1), Edges.BAD);
        e.refuses("ahead of MUCH: out", Edges::leastMuch, x -> x.likely(-1, 1), Edges.BAD);
        e.sentence(14, "MUCH.");
        e.takes("TERM 6 is 2 ^ 63 - 1", Edges::greatestCount, x -> x.likely(0, 1), 6);
        e.refuses("TERM 6 is 2 ^ 63", () -> muchByTwo(0), x -> x.likely(0, 2), Edges.MUCH);
        e.takes("TERM 6 is just below", () -> muchByTwo(1), x -> x.likely(0, 2), 6);
        e.refuses("COUNT 6 is, by rate 0", Edges::leastMuch, x -> x.likely(0, 0), Edges.MUCH);
    }

    private static int[] fiveAnd(int last) {
        return new int[] {1000, 1000, 1000, 1000, 1000, last};
    }

    private void mean() {
        e.sentence(15, "MEAN: part 0 above, 1 below the line, in lowest terms");
        // B 51 + 1492 + 8892 = 10435 of SUM 3762
        e.takes("above", Edges::rich, x -> x.mean(0, 1, 0), 10435);
        e.takes("below", Edges::rich, x -> x.mean(0, 1, 1), 3762);
        e.takes("2 of 2, above", () -> Edges.apart(1, 1), x -> x.mean(0, 1, 0), 1);
        e.takes("2 of 2, below", () -> Edges.apart(1, 1), x -> x.mean(0, 1, 1), 1);
        e.takes("10 of 8, above", () -> Edges.apart(3, 1), x -> x.mean(0, 1, 0), 5);
        e.takes("10 of 8, below", () -> Edges.apart(3, 1), x -> x.mean(0, 1, 1), 4);
        e.sentence(15, "(of nothing: 0 and 1).");
        e.takes("rate 0, above", Edges::rich, x -> x.mean(0, 0, 0), 0);
        e.takes("rate 0, below", Edges::rich, x -> x.mean(0, 0, 1), 1);
        e.takes("all OUT, below", Edges::rich, x -> x.mean(4095, 9, 1), 1);
        e.takes("LINES of WEIGHT 0, above", () -> Edges.apart(0, 0), x -> x.mean(0, 9, 0), 0);
        e.takes("LINES of WEIGHT 0, below", () -> Edges.apart(0, 0), x -> x.mean(0, 9, 1), 1);
        e.sentence(15, "BAD;");
        e.range("part", Edges::rich, (x, part) -> x.mean(0, 1, part), 0, 10435, 1, 3762, BAD);
        e.range("rate", Edges::rich, (x, rate) -> x.mean(0, rate, 1), 0, 1, 9, x9(), BAD);
        e.out("mean", Edges::rich, (x, out) -> x.mean(out, 1, 0), 10435, 0, BAD);
        e.refuses("ahead of MUCH: part", Edges::leastMuch, x -> x.mean(0, 1, 2), BAD);
        e.refuses("ahead of MUCH: rate", Edges::leastMuch, x -> x.mean(0, 10, 0), BAD);
        e.refuses("ahead of MUCH: out", Edges::leastMuch, x -> x.mean(4096, 1, 0), BAD);
        e.sentence(15, "MUCH.");
        int last = 0;
        while (Apart.fits(new Apart(1, fiveAnd(last + 1)).all(1))) {
            last++;
        }
        int within = last;
        Apart host = new Apart(1, fiveAnd(within));
        e.holds("SUM fits there and beyond", Apart.fits(new Apart(1, fiveAnd(within + 1)).all(0)));
        e.takes("B is the last that fits", () -> Edges.apart(fiveAnd(within)), x -> x.mean(0, 1, 0), Apart.above(host.all(1), host.all(0)));
        e.takes("and below", () -> Edges.apart(fiveAnd(within)), x -> x.mean(0, 1, 1), Apart.above(host.all(0), host.all(1)));
        e.refuses("B is the first that is MUCH", () -> Edges.apart(fiveAnd(within + 1)), x -> x.mean(0, 1, 0), MUCH);
        e.refuses("and below", () -> Edges.apart(fiveAnd(within + 1)), x -> x.mean(0, 1, 1), MUCH);
        e.refuses("COUNT 6 is, by rate 0", Edges::leastMuch, x -> x.mean(0, 0, 0), MUCH);
    }

    /** MEAN of the rich net by RATE 9, below: B is 459 + 2 * 60426 + 3 * 2160756 of SUM 2221642. */
    private static long x9() {
        BigInteger b = BigInteger.valueOf(459 + 2 * 60426 + 3 * 2160756);
        return Apart.above(BigInteger.valueOf(2221642), b);
    }

    private static PairedLines two(int figure) {
        return Edges.apart(9999, figure);
    }

    private static BigInteger greatestProduct(int figure) {
        Apart host = new Apart(9, 9999, figure);
        return host.all(2).multiply(host.all(0));
    }

    private void spread() {
        e.sentence(16, "SPREAD, likewise.");
        // of one LINE of 3: (3 * 4 - 9) of 16
        e.takes("above", () -> Edges.apart(3), x -> x.spread(0, 1, 0), 3);
        e.takes("below", () -> Edges.apart(3), x -> x.spread(0, 1, 1), 16);
        e.takes("lowest terms, above: 8 of 16", () -> Edges.apart(1, 1), x -> x.spread(0, 1, 0), 1);
        e.takes("lowest terms, below: 8 of 16", () -> Edges.apart(1, 1), x -> x.spread(0, 1, 1), 2);
        e.takes("of nothing, above", Edges::rich, x -> x.spread(0, 0, 0), 0);
        e.takes("of nothing, below", Edges::rich, x -> x.spread(0, 0, 1), 1);
        e.takes("all OUT, above", Edges::rich, x -> x.spread(4095, 1, 0), 0);
        e.takes("all OUT, below", Edges::rich, x -> x.spread(4095, 1, 1), 1);
        e.sentence(16, "BAD;");
        e.range("part", () -> Edges.apart(3), (x, part) -> x.spread(0, 1, part), 0, 3, 1, 16, BAD);
        e.range("rate", () -> Edges.apart(3), (x, rate) -> x.spread(0, rate, 1), 0, 1, 9, 28 * 28, BAD);
        e.out("spread", () -> Edges.apart(3), (x, out) -> x.spread(out, 1, 0), 3, 0, BAD);
        e.refuses("ahead of MUCH: part", Edges::leastMuch, x -> x.spread(0, 1, -1), BAD);
        e.refuses("ahead of MUCH: rate", Edges::leastMuch, x -> x.spread(0, -1, 0), BAD);
        e.refuses("ahead of MUCH: out", Edges::leastMuch, x -> x.spread(-1, 1, 0), BAD);
        e.sentence(16, "MUCH.");
        int last = 0;
        while (Apart.fits(greatestProduct(last + 1))) {
            last++;
        }
        int within = last;
        Apart host = new Apart(9, 9999, within);
        BigInteger below = host.all(0).pow(2);
        BigInteger above = host.all(2).multiply(host.all(0)).subtract(host.all(1).pow(2));
        e.takes("A times SUM is the last that fits", () -> two(within), x -> x.spread(0, 9, 0), Apart.above(above, below));
        e.takes("and below", () -> two(within), x -> x.spread(0, 9, 1), Apart.above(below, above));
        e.refuses("A times SUM is the first that is MUCH", () -> two(within + 1), x -> x.spread(0, 9, 0), MUCH);
        e.refuses("and below", () -> two(within + 1), x -> x.spread(0, 9, 1), MUCH);
        e.takes("of which the mean isn't", () -> two(within + 1), x -> x.mean(0, 9, 1) < 0 ? 1 : 0, 0);
        e.refuses("SUM is MUCH", Edges::justNotMuch, x -> x.spread(0, 1, 0), MUCH);
        e.refuses("COUNT 6 is, by rate 0", Edges::leastMuch, x -> x.spread(0, 0, 0), MUCH);
    }

    private void meanAs() {
        e.sentence(17, "BAD;");
        e.range("how", () -> Edges.apart(1), (x, how) -> x.meanAs(0, 1, how), 0, 500, 5, Float.floatToIntBits(0.5f % 0.3f), BAD);
        e.range("rate", () -> Edges.apart(1), (x, rate) -> x.meanAs(0, rate, 0), 0, 0, 9, 900, BAD);
        e.out("meanAs", () -> Edges.apart(1), (x, out) -> x.meanAs(out, 1, 0), 500, 0, BAD);
        e.refuses("ahead of MUCH: how", Edges::leastMuch, x -> x.meanAs(0, 1, 6), BAD);
        e.refuses("ahead of MUCH: rate", Edges::leastMuch, x -> x.meanAs(0, 10, 0), BAD);
        e.refuses("ahead of MUCH: out", Edges::leastMuch, x -> x.meanAs(4096, 1, 0), BAD);
        e.sentence(17, "MUCH.");
        for (int h = 0; h <= 5; h++) {
            int how = h;
            e.refuses("COUNT 6 is, by rate 0, how " + h, Edges::leastMuch, x -> x.meanAs(0, 0, how), MUCH);
            e.refuses("B is, how " + h, () -> greatestSum(0), x -> x.meanAs(0, 1, how), MUCH);
        }
        e.refuses("TERM 6 is 2 ^ 63", () -> muchByTwo(0), x -> x.meanAs(0, 2, 2), MUCH);
    }

    private void meanByHost() {
        // a round by 3, 2, 1, 0: COUNTS 1, 6, 3, so that MEAN is 12 of 10
        Edges.Maker[] nets = {PairedLines::new, () -> Edges.apart(1), () -> Edges.apart(3), () -> Edges.apart(1, 1), () -> Edges.apart(1, 1, 1, 1, 1, 1),
            () -> Edges.rounds(3, 2, 1, 0), () -> Edges.apart(19998, 19998, 19998, 19998), Edges::rich, Edges::forty};
        double[] means = {0.0, 0.5, 0.75, 1.0, 3.0, 1.2, 4 * 19998.0 / 19999, (double) 10435 / 3762, 0};
        PairedLines full = Edges.forty();
        long b = 0;
        for (int k = 0; k < 7; k++) {
            b += k * full.counts(0, k);
        }
        means[8] = (double) b / full.sum(0, 1);
        long four = 19999L * 19999 * 19999;
        means[6] = (double) (4 * 19998 * four) / (19999 * four);
        String[] words = {"how 0 (long) (m * 1000),", "1 Float.floatToIntBits((float) m),", "2 Double.doubleToLongBits(m),", "3 (int) (m % 1.0 * 1000),",
            "4 Double.doubleToLongBits(m % 0.375),", "5 Float.floatToIntBits((float) m % 0.3f)."};
        e.sentence(17, "m is (double) B / SUM:");
        for (int i = 0; i < nets.length; i++) {
            e.takes("m " + means[i], nets[i], x -> x.meanAs(0, 1, 2), Double.doubleToLongBits(means[i]));
        }
        for (int h = 0; h <= 5; h++) {
            int how = h;
            e.sentence(17, words[h]);
            for (int i = 0; i < nets.length; i++) {
                e.takes("m " + means[i], nets[i], x -> x.meanAs(0, 1, how), byHost(means[i], how));
            }
        }
    }

    private static long byHost(double m, int how) {
        switch (how) {
            case 0:
                return (long) (m * 1000);
            case 1:
                return Float.floatToIntBits((float) m);
            case 2:
                return Double.doubleToLongBits(m);
            case 3:
                return (int) (m % 1.0 * 1000);
            case 4:
                return Double.doubleToLongBits(m % 0.375);
            default:
                return Float.floatToIntBits((float) m % 0.3f);
        }
    }

    private void most() {
        e.sentence(18, "The greatest k for which there is a PAIRING of k LINES without POINTS that are OUT.");
        e.takes("of no POINTS", PairedLines::new, x -> x.most(0), 0);
        e.takes("of seven POINTS", Edges::rich, x -> x.most(0), 3);
        e.takes("one LINE is left", Edges::rich, x -> x.most(127 - 3), 1);
        e.takes("two POINTS without a LINE are left", Edges::rich, x -> x.most(127 - 5), 0);
        e.takes("of twelve POINTS", () -> Edges.apart(0, 0, 0, 0, 0, 0), x -> x.most(0), 6);
        e.takes("of twelve POINTS, one OUT", () -> Edges.apart(0, 0, 0, 0, 0, 0), x -> x.most(2048), 5);
        e.takes("COUNTS that are MUCH", Edges::leastMuch, x -> x.most(0), 6);
        e.sentence(18, "BAD.");
        e.out("most", Edges::rich, (x, out) -> x.most(out), 3, 0, Edges.BAD);
        e.out("most of MUCH", Edges::leastMuch, (x, out) -> x.most(out), 6, 0, Edges.BAD);
    }

    private void other() {
        e.sentence(19, "COUNT k, were there LINES, of WEIGHT 1, of just those two POINTS that have none now.");
        long[] whole = {1, 66, 1485, 13860, 51975, 62370, 10395};
        for (int k = 0; k < 7; k++) {
            int size = k;
            e.takes("of twelve POINTS, no LINES, " + k, () -> Edges.apart(), x -> x.points(12) + x.other(size), whole[size]);
            e.takes("of no POINTS, " + k, PairedLines::new, x -> x.other(size), size == 0 ? 1 : 0);
            e.takes("of one POINT, " + k, () -> Edges.apart(), x -> x.points(1) + x.other(size), size == 0 ? 1 : 0);
            e.takes("of all LINES, " + k, () -> Check.whole(9, 0, 5), x -> x.other(size), size == 0 ? 1 : 0);
        }
        e.takes("of seven POINTS with six LINES", Edges::rich, x -> x.other(1), 15);
        e.takes("of forty LINES", Edges::forty, x -> x.other(1), 26);
        e.takes("COUNTS that are MUCH", Edges::leastMuch, x -> x.other(1), 60);
        e.takes("a LINE of WEIGHT 0 is one", () -> Edges.apart(0), x -> x.other(1), 0);
        e.sentence(19, "BAD.");
        e.range("k", Edges::rich, (x, k) -> x.other(k), 0, 1, 6, 0, BAD);
    }
}
