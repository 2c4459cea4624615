/** Promises 25 and 26. */
final class SignsEdges {
    private final Edges e;

    SignsEdges(Edges e) {
        this.e = e;
    }

    void all() {
        sign();
        signIsMuch();
        changes();
        changesAreRefused();
    }

    private static PairedLines points(int n) {
        PairedLines x = new PairedLines();
        x.points(n);
        return x;
    }

    /** x * x - 4 */
    private static PairedLines four() {
        return Edges.apart(4);
    }

    private void sign() {
        e.sentence(25, "SIGN at p (-60 .. 60) of q (1 .. 6): -1, 0, 1.");
        e.range("p", SignsEdges::four, (x, p) -> x.sign(1, p, 1), -60, -1, 60, 1, Edges.BAD);
        e.range("q", SignsEdges::four, (x, q) -> x.sign(0, 3, q), 1, 1, 6, -1, Edges.BAD);
        for (int q = 1; q <= 6; q++) {
            for (int p = -60; p <= 60; p++) {
                int at = p;
                int of = q;
                e.takes("x * x - 4 at " + p + " of " + q, SignsEdges::four, x -> x.sign(0, at, of), Integer.compare(at * at, 4 * of * of));
            }
        }
        e.takes("0 of x", SignsEdges::four, x -> x.sign(2, 0, 6), 0);
        e.takes("no POINTS", PairedLines::new, x -> x.sign(0, 0, 1), 1);
        e.takes("all OUT", SignsEdges::four, x -> x.sign(4095, -60, 6), 1);
        e.sentence(25, "BAD;");
        e.out("sign", SignsEdges::four, (x, out) -> x.sign(out, 1, 1), -1, 1, Edges.BAD);
        e.refuses("ahead of MUCH: p", Edges::leastMuch, x -> x.sign(0, -61, 1), Edges.BAD);
        e.refuses("ahead of MUCH: q", Edges::leastMuch, x -> x.sign(0, 0, 7), Edges.BAD);
        e.refuses("ahead of MUCH: out", Edges::leastMuch, x -> x.sign(-1, 0, 1), Edges.BAD);
    }

    private void signIsMuch() {
        e.sentence(25, "MUCH.");
        e.refuses("a COUNT is", Edges::leastMuch, x -> x.sign(0, 0, 1), Edges.MUCH);
        e.takes("2 ^ 63 - 1 is not", Edges::greatestCount, x -> x.sign(0, 0, 1), 1);
        e.takes("1 - 2 ^ 63 is not", Edges::greatestOddCount, x -> x.sign(0, 0, 1), -1);
        e.takes("38 twelve times", () -> points(12), x -> x.sign(0, 38, 1), 1);
        e.refuses("39 twelve times", () -> points(12), x -> x.sign(0, 39, 1), Edges.MUCH);
        e.takes("-38 twelve times", () -> points(12), x -> x.sign(0, -38, 6), 1);
        e.refuses("-39 twelve times", () -> points(12), x -> x.sign(0, -39, 6), Edges.MUCH);
        e.takes("-52 eleven times", () -> points(11), x -> x.sign(0, -52, 1), -1);
        e.refuses("-53 eleven times", () -> points(11), x -> x.sign(0, -53, 1), Edges.MUCH);
        e.takes("60 ten times", () -> points(10), x -> x.sign(0, 60, 1), 1);
    }

    private void changes() {
        e.sentence(26, "How often SIGNS of p from .. to of q are another one than the last before that isn't 0 (those that are 0 left out).");
        e.takes("all", SignsEdges::four, x -> x.changes(0, 1, -60, 60), 2);
        e.takes("one alone", SignsEdges::four, x -> x.changes(0, 1, 7, 7), 0);
        e.takes("a 0 alone", SignsEdges::four, x -> x.changes(0, 1, 2, 2), 0);
        e.takes("0 at the beginning", SignsEdges::four, x -> x.changes(0, 1, -2, 1), 0);
        e.takes("0 at the end", SignsEdges::four, x -> x.changes(0, 1, -1, 2), 0);
        e.takes("0 between unlike ones", SignsEdges::four, x -> x.changes(0, 1, 1, 3), 1);
        e.takes("0 at both ends", SignsEdges::four, x -> x.changes(0, 1, -2, 2), 0);
        e.takes("0 between like ones: x * x", () -> Edges.apart(0), x -> x.changes(0, 1, -60, 60), 0);
        e.takes("no 0 on the way", () -> Edges.apart(3), x -> x.changes(0, 1, 1, 2), 1);
        e.takes("the first two", () -> points(1), x -> x.changes(0, 1, -60, -59), 0);
        e.takes("x", () -> points(1), x -> x.changes(0, 6, -1, 1), 1);
        e.takes("no POINTS", PairedLines::new, x -> x.changes(0, 6, -60, 60), 0);
        e.takes("as often as there are POINTS", Edges::rich, x -> x.changes(0, 6, -60, 60), 7);
        e.takes("on one side", Edges::rich, x -> x.changes(0, 6, 1, 60), 3);
    }

    private void changesAreRefused() {
        e.sentence(26, "BAD: out, q (1 .. 6),");
        e.out("changes", SignsEdges::four, (x, out) -> x.changes(out, 1, -3, 3), 2, 0, Edges.BAD);
        e.range("q", SignsEdges::four, (x, q) -> x.changes(0, q, 0, 3), 1, 1, 6, 0, Edges.BAD);
        e.refuses("ahead of MUCH: q", Edges::leastMuch, x -> x.changes(0, 0, 0, 0), Edges.BAD);
        e.refuses("ahead of MUCH: out", Edges::leastMuch, x -> x.changes(4096, 1, 0, 0), Edges.BAD);
        e.sentence(26, "from above to,");
        e.refuses("1 above 0", SignsEdges::four, x -> x.changes(0, 1, 1, 0), Edges.BAD);
        e.refuses("60 above -60", SignsEdges::four, x -> x.changes(0, 1, 60, -60), Edges.BAD);
        e.refuses("60 above 59", SignsEdges::four, x -> x.changes(0, 1, 60, 59), Edges.BAD);
        e.refuses("ahead of MUCH", Edges::leastMuch, x -> x.changes(0, 1, 1, 0), Edges.BAD);
        e.sentence(26, "one of them beyond -60 .. 60;");
        e.takes("from -60 to -60", SignsEdges::four, x -> x.changes(0, 1, -60, -60), 0);
        e.takes("from 60 to 60", SignsEdges::four, x -> x.changes(0, 1, 60, 60), 0);
        e.refuses("from -61", SignsEdges::four, x -> x.changes(0, 1, -61, -60), Edges.BAD);
        e.refuses("to 61", SignsEdges::four, x -> x.changes(0, 1, 60, 61), Edges.BAD);
        e.refuses("both above", SignsEdges::four, x -> x.changes(0, 1, 61, 61), Edges.BAD);
        e.refuses("both below", SignsEdges::four, x -> x.changes(0, 1, -61, -61), Edges.BAD);
        e.refuses("far off", SignsEdges::four, x -> x.changes(0, 1, Integer.MIN_VALUE, Integer.MAX_VALUE), Edges.BAD);
        e.refuses("far off above", SignsEdges::four, x -> x.changes(0, 1, Integer.MAX_VALUE, Integer.MAX_VALUE), Edges.BAD);
        e.sentence(26, "MUCH: one of them is.");
        e.takes("none is", () -> points(12), x -> x.changes(0, 1, -38, 38), 0);
        e.refuses("the last is", () -> points(12), x -> x.changes(0, 1, -38, 39), Edges.MUCH);
        e.refuses("the first is", () -> points(12), x -> x.changes(0, 1, -39, 38), Edges.MUCH);
        e.refuses("a COUNT is", Edges::leastMuch, x -> x.changes(0, 1, 0, 0), Edges.MUCH);
        // from 44 to 48 they are, at 43 and 49 they are not
        e.refuses("some between are", () -> Edges.apart(256, 256, 256, 256, 2816, 3328), x -> x.changes(0, 1, 43, 49), Edges.MUCH);
        e.takes("none behind them is", () -> Edges.apart(256, 256, 256, 256, 2816, 3328), x -> x.changes(0, 1, 49, 58), 2);
        e.takes("none ahead of them is", () -> Edges.apart(256, 256, 256, 256, 2816, 3328), x -> x.changes(0, 1, 0, 43), 0);
    }
}
