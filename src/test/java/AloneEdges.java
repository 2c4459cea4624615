/** Promises 20 to 24. */
final class AloneEdges {
    private static final long BAD = Check.BAD;
    private static final long STATE = Check.STATE;
    private static final long MUCH = Check.MUCH;
    private static final long PLACE = Check.PLACE;

    private final Edges e;

    AloneEdges(Edges e) {
        this.e = e;
    }

    void all() {
        alone();
        tree();
        node();
        share();
        shareIsRefused();
        cutOff();
    }

    private void alone() {
        e.sentence(20, "ALONE: part 0 above, 1 below the line, in lowest terms.");
        e.range("part", () -> Edges.apart(3), (x, part) -> x.alone(0, 0, 1, part), 0, 1, 1, 4, BAD);
        e.takes("4 of 8, above", () -> Edges.apart(3, 1), x -> x.alone(3, 0, 1, 0), 1);
        e.takes("4 of 8, below", () -> Edges.apart(3, 1), x -> x.alone(3, 0, 1, 1), 2);
        e.takes("a POINT without LINES, above", () -> Edges.apart(3, 1), x -> x.points(1) + x.alone(0, 0, 9, 0), 4 + 1);
        e.takes("a POINT without LINES, below", () -> Edges.apart(3, 1), x -> x.points(1) + x.alone(0, 0, 9, 1), 4 + 1);
        e.takes("LINES of WEIGHT 0", () -> Edges.apart(0), x -> x.alone(0, 0, 9, 1), 1);
        e.takes("the other POINT OUT", () -> Edges.apart(3), x -> x.alone(0, 2, 9, 1), 1);
        e.sentence(20, "BAD: also a POINT that is OUT;");
        e.range("point", Edges::rich, (x, point) -> x.alone(point, 0, 0, 0), 0, 1, 6, 1, BAD);
        e.range("rate", () -> Edges.apart(3), (x, rate) -> x.alone(0, 0, rate, 1), 0, 1, 9, 28, BAD);
        e.range("OUT", () -> Edges.apart(3), (x, out) -> x.alone(0, out, 1, 1), 0, 4, 4094, 1, BAD);
        for (int p = 0; p < 7; p++) {
            int point = p;
            e.refuses("POINT " + p + " is OUT", Edges::rich, x -> x.alone(point, 1 << point, 1, 0), BAD);
            e.takes("all others are OUT", Edges::rich, x -> x.alone(point, 4095 ^ 1 << point, 1, 0), 1);
        }
        e.refuses("no POINTS", PairedLines::new, x -> x.alone(0, 0, 1, 0), BAD);
        e.refuses("ahead of MUCH: point", Edges::leastMuch, x -> x.alone(12, 0, 1, 0), BAD);
        e.refuses("ahead of MUCH: part", Edges::leastMuch, x -> x.alone(0, 0, 1, 2), BAD);
        e.sentence(20, "MUCH.");
        e.refuses("COUNT 6 is, by rate 0", Edges::leastMuch, x -> x.alone(0, 0, 0, 0), MUCH);
        e.takes("not with a POINT OUT", Edges::leastMuch, x -> x.alone(0, 2, 0, 0), 1);
        e.refuses("SUM is, but not without it", Edges::greatestCount, x -> x.alone(0, 0, 1, 0), MUCH);
        e.takes("SUM without it is not", Edges::greatestCount, x -> x.sum(1, 1) > 0 ? 1 : 0, 1);
        e.refuses("SUM is, below", Edges::greatestCount, x -> x.alone(0, 0, 1, 1), MUCH);
    }

    /** All LINES of six POINTS but two, with LINES that hang from POINT 2 and from POINT 0: 185 NODES and 38 more for each at 2, one for each at 0. */
    private static PairedLines nearlyMuch(int hanging) {
        PairedLines x = new PairedLines();
        x.points(12);
        for (int a = 0; a < 6; a++) {
            for (int b = a + 1; b < 6; b++) {
                if (!(a == 0 && b == 1) && !(a == 2 && b == 3)) {
                    x.line(0, 1, a, b);
                }
            }
        }
        for (int v = 6; v < 9; v++) {
            x.line(0, 1, 2, v);
        }
        for (int i = 0; i < hanging; i++) {
            x.line(0, 1, 0, 9 + i);
        }
        return x;
    }

    /** As nearlyMuch(), with THE TREE of POINT 9, all else OUT but 0. */
    private static PairedLines withTree(int hanging) {
        PairedLines x = nearlyMuch(hanging);
        x.tree(9, 4094 - 512);
        return x;
    }

    private void tree() {
        e.sentence(21, "THE TREE of a POINT is made: how many NODES.");
        e.takes("one", () -> Edges.apart(1), x -> x.tree(1, 1), 1);
        e.takes("two", () -> Edges.apart(1), x -> x.tree(1, 0), 2);
        e.takes("two, of WEIGHT 0", () -> Edges.apart(0), x -> x.tree(0, 0), 2);
        e.takes("seven", Edges::rich, x -> x.tree(0, 0), 7);
        e.takes("299", () -> nearlyMuch(0), x -> x.tree(0, 0), 299);
        e.takes("300", () -> nearlyMuch(1), x -> x.tree(0, 0), 300);
        e.takes("twelve on one way", () -> Check.path(12), x -> x.tree(11, 0), 12);
        PairedLines x = Edges.rich();
        x.tree(5, 0);
        e.due("it is another one then", x.node(0, 0), 5);
        x.tree(6, 32);
        e.due("of one NODE", x.count(3), 1);
        e.due("no NODE of before is left", x.node(1, 0), Edges.PLACE);
        e.sentence(21, "BAD: also a POINT that is OUT;");
        e.range("point", Edges::rich, (y, point) -> y.tree(point, 0), 0, 7, 6, 7, Edges.BAD);
        e.range("OUT", Edges::rich, (y, out) -> y.tree(0, out), 0, 7, 4094, 1, Edges.BAD);
        for (int p = 0; p < 7; p++) {
            int point = p;
            e.refuses("POINT " + p + " is OUT", Edges::rich, y -> y.tree(point, 1 << point), Edges.BAD);
            e.takes("all others are OUT", Edges::rich, y -> y.tree(point, 4095 ^ 1 << point), 1);
        }
        e.refuses("no POINTS", PairedLines::new, y -> y.tree(0, 0), Edges.BAD);
        e.refuses("ahead of MUCH", () -> withTree(2), y -> y.tree(0, 4096), Edges.BAD);
        e.sentence(21, "MUCH.");
        e.refuses("301", () -> withTree(2), y -> y.tree(0, 0), Edges.MUCH);
        e.refuses("301, no TREE of before", () -> nearlyMuch(2), y -> y.tree(0, 0), Edges.MUCH);
        e.refuses("far more", Edges::forty, y -> y.tree(0, 0), Edges.MUCH);
    }

    private void node() {
        e.sentence(22, "Of NODE k of THE TREE: what 0 its POINT, 1 the NODE that it is right behind (NONE: the first one), 2 how many NODES are right behind it, 3 how many are on the way to it, without it.");
        int[][] due = {{2, -1, 2, 0}, {1, 0, 1, 1}, {0, 1, 0, 2}, {3, 0, 1, 1}, {4, 3, 1, 2}, {5, 4, 1, 3}, {6, 5, 0, 4}};
        for (int k = 0; k < 7; k++) {
            for (int w = 0; w < 4; w++) {
                int node = k;
                int what = w;
                e.takes("node(" + k + ", " + w + ")", Edges::rich, x -> x.node(node, what), due[node][what]);
            }
        }
        PairedLines full = nearlyMuch(1);
        full.tree(0, 0);
        e.due("the 300th", full.node(299, 0), 9);
        e.due("behind it", full.node(300, 0), Edges.PLACE);
        PairedLines longest = Check.path(12);
        longest.tree(0, 0);
        e.due("eleven on the way", longest.node(11, 3), 11);
        e.sentence(22, "PLACE: there is none such (or no TREE);");
        e.range("k", Edges::rich, (x, k) -> x.node(k, 0), 0, 2, 6, 6, Edges.PLACE);
        e.refuses("no TREE", PairedLines::new, x -> x.node(0, 0), Edges.PLACE);
        e.refuses("no TREE, as it was MUCH", () -> nearlyMuch(2), x -> x.node(x.tree(0, 0) + 5, 0), Edges.PLACE);
        e.refuses("ahead of BAD", Edges::rich, x -> x.node(7, 4), Edges.PLACE);
        e.refuses("no TREE, ahead of BAD", PairedLines::new, x -> x.node(0, -1), Edges.PLACE);
        e.sentence(22, "BAD: what.");
        e.range("what", Edges::rich, (x, what) -> x.node(3, what), 0, 3, 3, 1, Edges.BAD);
    }

    /** A way on which WEIGHTS are such that the S of POINT 0, by RATE 9, is at the edge of 64 bits; POINT 8 hangs from 0 by another LINE. */
    private static PairedLines way(int figure, int hanging) {
        PairedLines x = new PairedLines();
        x.points(9);
        x.line(0, figure, 0, 1);
        for (int v = 1; v < 7; v++) {
            x.line(0, 9999, v, v + 1);
        }
        x.line(0, hanging, 0, 8);
        x.tree(8, 0);
        return x;
    }

    private void share() {
        e.sentence(23, "SHARE of NODE k by the WEIGHTS of now:");
        PairedLines x = Check.path(3);
        x.tree(0, 0);
        // 1 of 1 + 1 of 1 + 2
        e.due("as they are", x.share(0, 1, 1), 4);
        x.set(1, 0);
        e.due("FIGURE is another one", x.share(0, 1, 1), 2);
        x.turns(1, 3);
        x.tide(9);
        e.due("KIND and TIDE are other ones", x.share(1, 1, 1), 10);
        x.line(0, 5, 0, 2);
        e.due("a LINE that THE TREE hasn't does nothing", x.share(1, 1, 1), 10);
        x.drop(0);
        x.line(0, 7, 1, 0);
        e.due("another LINE of the same POINTS", x.share(0, 1, 1), 17);
        e.sentence(23, "part 0 above, 1 below the line.");
        e.range("part", () -> way(0, 7), (y, part) -> y.share(0, 1, part), 0, 1, 1, 8, BAD);
        e.takes("of the last NODE, above", () -> way(0, 7), y -> y.share(8, 9, 0), 1);
        e.takes("of the last NODE, below", () -> way(0, 7), y -> y.share(8, 9, 1), 1);
        e.takes("by rate 0", () -> way(9999, 9999), y -> y.share(0, 0, 1), 1);
        e.sentence(23, "MUCH.");
        e.takes("within, above", () -> way(1405, 0), y -> y.share(1, 9, 0), 2915206271817841L);
        e.takes("within, below", () -> way(1405, 0), y -> y.share(1, 9, 1), 9218969451095188726L);
        e.refuses("beyond, above", () -> way(1406, 0), y -> y.share(1, 9, 0), MUCH);
        e.refuses("beyond, below", () -> way(1406, 0), y -> y.share(1, 9, 1), MUCH);
    }

    /** The rich net, of which a LINE of THE TREE is no more. */
    private static PairedLines without(int line) {
        PairedLines x = Edges.rich();
        x.drop(line);
        return x;
    }

    private void shareIsRefused() {
        e.sentence(23, "PLACE;");
        e.range("k", Edges::rich, (x, k) -> x.share(k, 0, 1), 0, 1, 6, 1, PLACE);
        e.refuses("no TREE", PairedLines::new, x -> x.share(0, 0, 0), PLACE);
        e.refuses("ahead of BAD: rate", Edges::rich, x -> x.share(7, 10, 0), PLACE);
        e.refuses("ahead of BAD: part", Edges::rich, x -> x.share(-1, 0, 2), PLACE);
        e.refuses("ahead of STATE", () -> without(0), x -> x.share(7, 1, 0), PLACE);
        e.sentence(23, "BAD: rate, part;");
        e.range("rate", () -> way(0, 7), (x, rate) -> x.share(0, rate, 1), 0, 1, 9, 64, BAD);
        e.beyond("part", Edges::rich, (x, part) -> x.share(6, 1, part), 0, 1, BAD);
        e.refuses("ahead of STATE: rate", () -> without(0), x -> x.share(0, -1, 0), BAD);
        e.refuses("ahead of STATE: part", () -> without(0), x -> x.share(0, 1, -1), BAD);
        e.refuses("ahead of MUCH: rate", () -> way(9999, 9999), x -> x.share(0, 10, 0), BAD);
        e.refuses("ahead of MUCH: part", () -> way(9999, 9999), x -> x.share(0, 9, 2), BAD);
        e.sentence(23, "STATE: two POINTS, one of a NODE of THE TREE (of any), one of that which it is right behind, have no LINE any more;");
        for (int l = 0; l < 6; l++) {
            int line = l;
            for (int k = 0; k < 7; k++) {
                int node = k;
                e.takes("without LINE " + l + ", of NODE " + k, () -> without(line), x -> x.share(node, 1, 0), STATE);
            }
            e.refuses("without LINE " + l, () -> without(line), x -> x.share(6, 0, 1), STATE);
        }
        PairedLines x = without(5);
        x.line(0, 1, 6, 5);
        e.due("they have one again", x.share(6, 1, 1), 1);
        x.points(7);
        e.due("no LINES", x.share(6, 1, 1), STATE);
        x.points(0);
        e.due("no POINTS", x.share(0, 1, 1), STATE);
        x.back();
        e.due("as in THE IMAGE", x.share(6, 1, 1), 1);
        x.tree(3, 127 - 8);
        x.points(0);
        e.due("one NODE is right behind none", x.share(0, 9, 1), 1);
        PairedLines much = way(9999, 9999);
        e.due("MUCH", much.share(0, 9, 0), MUCH);
        much.drop(0);
        e.due("ahead of MUCH", much.share(0, 9, 0), STATE);
    }

    private void cutOff() {
        e.sentence(24, "CUT OFF, as Float.floatToIntBits().");
        e.takes("of a POINT without LINES", () -> Check.path(1), x -> x.cutOff(0, 0, 9, 5), Float.floatToIntBits(1.0f));
        e.takes("one LINE", () -> Edges.apart(9999), x -> x.cutOff(0, 0, 9, 1), Float.floatToIntBits(1.0f / (1.0f + 89991.0f)));
        e.takes("one LINE, the other POINT OUT", () -> Edges.apart(9999), x -> x.cutOff(0, 2, 9, 1), Float.floatToIntBits(1.0f));
        int[] weights = {3, 18, 1, 7};
        for (int d = 0; d <= 5; d++) {
            int depth = d;
            float cut = 1.0f;
            for (int i = Math.min(3, d - 1); i >= 0; i--) {
                cut = 1.0f / (1.0f + weights[i] * cut);
            }
            e.takes("four LINES on a way, at depth " + d, Edges::rich, x -> x.cutOff(2, 3, 1, depth), Float.floatToIntBits(cut));
        }
        e.sentence(24, "BAD: also a POINT that is OUT.");
        int one = Float.floatToIntBits(1.0f);
        e.range("point", Edges::rich, (x, point) -> x.cutOff(point, 0, 9, 0), 0, one, 6, one, Edges.BAD);
        e.range("OUT", Edges::rich, (x, out) -> x.cutOff(0, out, 9, 0), 0, one, 4094, one, Edges.BAD);
        e.range("rate", () -> Edges.apart(1), (x, rate) -> x.cutOff(0, 0, rate, 5), 0, one, 9, Float.floatToIntBits(0.1f), Edges.BAD);
        e.range("depth", () -> Edges.apart(1), (x, depth) -> x.cutOff(1, 0, 1, depth), 0, one, 5, Float.floatToIntBits(0.5f), Edges.BAD);
        for (int p = 0; p < 7; p++) {
            int point = p;
            e.refuses("POINT " + p + " is OUT", Edges::rich, x -> x.cutOff(point, 1 << point, 1, 0), Edges.BAD);
            e.takes("all others are OUT", Edges::rich, x -> x.cutOff(point, 4095 ^ 1 << point, 9, 5), one);
        }
        e.refuses("no POINTS", PairedLines::new, x -> x.cutOff(0, 0, 1, 0), Edges.BAD);
    }
}
