/** What the document says ahead of its promises, parts 1 and 3 of the terms. */
final class TermsEdges {
    private static final int T = Edges.TERMS;

    private final Edges e;

    TermsEdges(Edges e) {
        this.e = e;
    }

    void all() {
        calls();
        answers();
        pointsAndLines();
        weights();
        sets();
        rows();
        draws();
    }

    private void calls() {
        e.sentence(T, "An object is used for at most 512 calls after it has been made; what later calls answer is free.");
        PairedLines x = new PairedLines();
        x.points(12);
        for (int i = 1; i < 511; i++) {
            e.due("call " + (i + 1), x.tide(i % 10), i == 1 ? 0 : (i - 1) % 10);
        }
        e.due("call 512", x.line(3, 9999, 11, 10), 0);
        e.sentence(T, "All numbers are whole, but where told.");
        e.takes("half of 7 less 4", Edges::rich, y -> y.told(4, 2), 1);
        e.takes("7 / 2 of ints", SheetsEdges::four, y -> y.cell(0, 0, 7) + y.parts(0, 0, 2) + y.read(0, 0, 0), 2 + 3);
        e.takes("7 / 2 of doubles, where told", SheetsEdges::four, y -> y.cell(3, 0, 7) + y.parts(3, 0, 2) + y.read(3, 0, 0), 2 + Double.doubleToLongBits(3.5));
    }

    private void answers() {
        e.sentence(T, "A call that is refused answers NONE (-1), BAD (-2), STATE (-3), FULL (-4), MUCH (-5), or by the host NOTHING (-11), PLACE (-12), KIND (-13), SIZE (-14);");
        e.refuses("NONE", Edges::rich, x -> x.between(0, 2), -1);
        e.refuses("BAD", Edges::rich, x -> x.points(13), -2);
        e.refuses("STATE", Edges::rich, x -> x.line(0, 1, 0, 1), -3);
        e.refuses("FULL", Edges::forty, x -> x.line(0, 1, 10, 11), -4);
        e.refuses("MUCH", Edges::forty, x -> x.tree(0, 0), -5);
        e.refuses("NOTHING", Edges::rich, x -> x.of(2, 0), -11);
        e.refuses("PLACE", Edges::rich, x -> x.of(0, 3), -12);
        e.refuses("KIND", Edges::rich, x -> x.lay(1, 0, 0), -13);
        e.refuses("SIZE", Edges::rich, x -> x.rack(0, 0, -1), -14);
        e.sentence(T, "where a long is answered -4611686018427387904 and that one, together:");
        e.refuses("BAD", Edges::rich, x -> x.counts(0, 7), -4611686018427387906L);
        e.refuses("STATE", Edges::rich, x -> x.worth(3), -4611686018427387907L);
        e.refuses("MUCH", Edges::leastMuch, x -> x.counts(0, 6), -4611686018427387909L);
        e.refuses("NOTHING", Edges::rich, x -> x.read(3, 0, 0), -4611686018427387915L);
        e.refuses("PLACE", Edges::rich, x -> x.read(0, 5, 0), -4611686018427387916L);
        e.sentence(T, "of several the one that stands first with it;");
        e.refuses("line: BAD, STATE, FULL", Edges::forty, x -> x.line(6, 1, 4, 6), Edges.BAD);
        e.refuses("line: STATE, FULL", Edges::forty, x -> x.line(0, 1, 4, 6), Edges.STATE);
        e.refuses("node: PLACE, BAD", Edges::rich, x -> x.node(7, 4), Edges.PLACE);
        e.refuses("read: BAD, NOTHING", Edges::rich, x -> x.read(3, -1, 5), Check.BAD);
        e.refuses("lay: NOTHING, PLACE", Edges::rich, x -> x.lay(2, -1, 0), Edges.NOTHING);
        e.refuses("copy: KIND, PLACE", Edges::rich, x -> x.copy(0, -1, 1, -1, -1), Edges.KIND);
        e.sentence(T, "it changes nothing, but where told.");
        e.refuses("points", Edges::rich, x -> x.points(-1), Edges.BAD);
        e.refuses("tree", Edges::rich, x -> x.tree(0, 1), Edges.BAD);
        e.refuses("rack", Edges::rich, x -> x.rack(0, 0, 21), Edges.BAD);
        e.refuses("sheet", Edges::rich, x -> x.sheet(0, 0, 61), Edges.BAD);
        PairedLines x = Edges.rich();
        x.sheet(0, 0, 2);
        x.cell(0, 0, 5);
        e.due("writes: PLACE", x.writes(0, 0), Edges.PLACE);
        e.due("where told: what stands ahead came", x.read(0, 1, 0), -2964);
        e.sentence(T, "MUCH: a number that is told is none of 64 bits.");
        e.takes("2 ^ 63 - 1", Edges::greatestCount, y -> y.counts(0, 6), Long.MAX_VALUE);
        e.takes("1 - 2 ^ 63", Edges::greatestOddCount, y -> y.coef(0, 0), -Long.MAX_VALUE);
        e.refuses("2 ^ 63", Edges::leastMuch, y -> y.counts(0, 6), Check.MUCH);
    }

    private void pointsAndLines() {
        e.sentence(T, "POINTS 0 .. 11 at most (none at first).");
        e.takes("none at first", PairedLines::new, x -> x.count(0), 0);
        e.takes("POINT 11", Edges::forty, x -> x.near(11, 0), 15);
        e.refuses("POINT 12", Edges::forty, x -> x.near(12, 0), Edges.BAD);
        e.refuses("a 13th", Edges::forty, x -> x.points(13), Edges.BAD);
        e.sentence(T, "LINES are numbered from 0 on as they come, 40 at most,");
        e.takes("LINE 0", Edges::forty, x -> x.between(0, 1), 0);
        e.takes("LINE 39", Edges::forty, x -> x.between(4, 6), 39);
        e.refuses("LINE 40", Edges::forty, x -> x.line(0, 1, 4, 7), Edges.FULL);
        e.sentence(T, "between two POINTS each, one for two POINTS at most;");
        e.refuses("one POINT", Edges::rich, x -> x.line(0, 1, 0, 0), Edges.BAD);
        e.refuses("a second one", Edges::rich, x -> x.line(0, 1, 1, 0), Edges.STATE);
        e.sentence(T, "each is of a KIND and has a FIGURE (0 .. 9999).");
        e.range("FIGURE", Edges::rich, (x, figure) -> x.line(0, figure, 0, 2), 0, 6, 9999, 6, Edges.BAD);
        e.range("KIND", Edges::rich, (x, kind) -> x.line(kind, 1, 0, 2), 0, 6, 5, 6, Edges.BAD);
        e.sentence(T, "TIDE is 0 .. 9 (0 at first).");
        e.takes("0 at first", PairedLines::new, x -> x.count(2), 0);
        e.range("TIDE", PairedLines::new, (x, v) -> x.tide(v), 0, 0, 9, 0, Edges.BAD);
    }

    private void weightsOf(int kind, int figure, int... byTide) {
        for (int tide = 0; tide < 10; tide++) {
            PairedLines x = new PairedLines();
            x.points(2);
            x.line(kind, figure, 0, 1);
            x.tide(tide);
            e.due("FIGURE " + figure + " at TIDE " + tide, x.told(0, 2), byTide[tide]);
            e.due("COUNT 1 of it", x.counts(0, 1), byTide[tide]);
        }
    }

    private void under(int kind, int top) {
        for (int t = 0; t < 6; t++) {
            PairedLines x = Edges.rich();
            x.rack(2, t, 1);
            boolean fits = t == kind || t == top || t == 0;
            e.due("KIND " + kind + " to a RACK of KIND " + t, x.lay(2, 0, kind), fits ? kind : Edges.KIND);
        }
    }

    private void weights() {
        e.sentence(T, "WEIGHT: 0 LINE: FIGURE.");
        weightsOf(0, 0, 0, 0, 0, 0, 0, 0, 0, 0, 0, 0);
        weightsOf(0, 9999, 9999, 9999, 9999, 9999, 9999, 9999, 9999, 9999, 9999, 9999);
        under(0, 0);
        e.sentence(T, "1 TWIN, under LINE: twice that of a LINE.");
        weightsOf(1, 0, 0, 0, 0, 0, 0, 0, 0, 0, 0, 0);
        weightsOf(1, 9999, 19998, 19998, 19998, 19998, 19998, 19998, 19998, 19998, 19998, 19998);
        under(1, 0);
        e.sentence(T, "2 WORN, under LINE: that of a LINE, less TIDE (0 at least).");
        weightsOf(2, 0, 0, 0, 0, 0, 0, 0, 0, 0, 0, 0);
        weightsOf(2, 5, 5, 4, 3, 2, 1, 0, 0, 0, 0, 0);
        weightsOf(2, 8, 8, 7, 6, 5, 4, 3, 2, 1, 0, 0);
        weightsOf(2, 9, 9, 8, 7, 6, 5, 4, 3, 2, 1, 0);
        weightsOf(2, 10, 10, 9, 8, 7, 6, 5, 4, 3, 2, 1);
        under(2, 0);
        e.sentence(T, "3 PROP, under TWIN: that of a TWIN, and TIDE.");
        weightsOf(3, 0, 0, 1, 2, 3, 4, 5, 6, 7, 8, 9);
        weightsOf(3, 9999, 19998, 19999, 20000, 20001, 20002, 20003, 20004, 20005, 20006, 20007);
        under(3, 1);
        e.sentence(T, "4 THIN, under WORN: half (cut) of that of a WORN one.");
        weightsOf(4, 0, 0, 0, 0, 0, 0, 0, 0, 0, 0, 0);
        weightsOf(4, 1, 0, 0, 0, 0, 0, 0, 0, 0, 0, 0);
        weightsOf(4, 4, 2, 1, 1, 0, 0, 0, 0, 0, 0, 0);
        weightsOf(4, 9999, 4999, 4999, 4998, 4998, 4997, 4997, 4996, 4996, 4995, 4995);
        under(4, 2);
        e.sentence(T, "5 CALM, under LINE: that of a LINE, if TIDE is even, else 1.");
        weightsOf(5, 0, 0, 1, 0, 1, 0, 1, 0, 1, 0, 1);
        weightsOf(5, 9999, 9999, 1, 9999, 1, 9999, 1, 9999, 1, 9999, 1);
        under(5, 0);
    }

    private void sets() {
        e.sentence(T, "A PAIRING is a set of LINES no two of which have a POINT alike;");
        e.takes("none", Edges::rich, x -> x.isPairing(0), 1);
        e.takes("one", Edges::rich, x -> x.isPairing(2), 1);
        e.takes("two with a POINT alike", Edges::rich, x -> x.isPairing(6), 0);
        e.takes("two without", Edges::rich, x -> x.isPairing(5), 1);
        e.takes("four, two of which have one alike", Edges::rich, x -> x.isPairing(37 + 16), 0);
        e.sentence(T, "sets of LINES are bits of a long,");
        e.takes("LINE 39", Edges::forty, x -> x.worth(1L << 39), 1);
        e.takes("LINES 0 and 39", Edges::forty, x -> x.isPairing(1L << 39 | 1), 1);
        e.sentence(T, "sets of POINTS bits of an int (OUT, 0 .. 4095: POINTS that are left out with their LINES;");
        e.out("counts", Edges::rich, (x, out) -> x.counts(out, 1), 51, 0, Check.BAD);
        for (int p = 0; p < 7; p++) {
            int point = p;
            int[] due = {43, 29, 34, 30, 32, 43, 44};
            e.takes("POINT " + p + " OUT", Edges::rich, x -> x.counts(1 << point, 1), due[point]);
        }
        e.takes("POINT 11 OUT", Edges::forty, x -> x.counts(2048, 1), 36);
        e.sentence(T, "bits of no POINT do nothing).");
        int none = 4095 - 127;
        e.takes("near", Edges::rich, x -> x.near(1, none), 5);
        e.takes("counts", Edges::rich, x -> x.counts(none, 2), 746);
        e.takes("coef", Edges::rich, x -> x.coef(none, 7), 1);
        e.takes("sum", Edges::rich, x -> x.sum(none, 1), 3762);
        e.takes("likely", Edges::rich, x -> x.likely(none, 1), 3);
        e.takes("mean", Edges::rich, x -> x.mean(none, 1, 1), 3762);
        e.takes("spread", () -> Edges.apart(3), x -> x.spread(4092, 1, 1), 16);
        e.takes("meanAs", () -> Edges.apart(1), x -> x.meanAs(4092, 1, 0), 500);
        e.takes("most", Edges::rich, x -> x.most(none), 3);
        e.takes("alone", () -> Edges.apart(3), x -> x.alone(0, 4092, 1, 1), 4);
        e.takes("tree", Edges::rich, x -> x.tree(3, none), 7);
        e.takes("cutOff", () -> Edges.apart(1), x -> x.cutOff(0, 4092, 1, 5), Float.floatToIntBits(0.5f));
        e.takes("sign", () -> Edges.apart(4), x -> x.sign(4092, 1, 1), -1);
        e.takes("changes", () -> Edges.apart(4), x -> x.changes(4092, 1, -60, 60), 2);
        e.takes("writes", Edges::rich, x -> x.sheet(3, 1, 8) + x.writes(3, none), 1 + 8);
        e.takes("same", SheetsEdges::four, x -> x.same(1, none), 1);
        e.takes("of no POINTS at all", PairedLines::new, x -> x.coef(4095, 0), 1);
        e.sentence(T, "What it is worth: the WEIGHTS of its LINES one times the other (of none: 1).");
        e.takes("of none", Edges::rich, x -> x.worth(0), 1);
        e.takes("of one", Edges::rich, x -> x.worth(8), 18);
        e.takes("of three", Edges::rich, x -> x.worth(41), 8 * 18 * 7);
    }

    private void rows() {
        e.sentence(T, "RACKS 0 .. 2 are rows for LINES of one KIND, or under it, or missing (at first).");
        for (int r = -1; r <= 3; r++) {
            int rack = r;
            e.refuses("RACK " + r, PairedLines::new, x -> x.of(rack, 0), r < 0 || r > 2 ? Edges.BAD : Edges.NOTHING);
        }
        e.takes("under it", Edges::rich, x -> x.lay(1, 0, 4), 4);
        e.refuses("not under it", Edges::rich, x -> x.lay(1, 0, 3), Edges.KIND);
        e.sentence(T, "SHEETS 0 .. 3 are rows of at most 60 numbers: of sort 0 ints, 1 longs, 2 floats, 3 doubles, or missing (-1; at first).");
        for (int s = -1; s <= 4; s++) {
            int sheet = s;
            e.refuses("SHEET " + s, PairedLines::new, x -> x.read(sheet, 0, 0), s < 0 || s > 3 ? Check.BAD : Check.NOTHING);
        }
        for (int sort = 0; sort < 4; sort++) {
            int of = sort;
            e.takes("sixty", PairedLines::new, x -> x.sheet(0, of, 60), 1);
            e.refuses("61", PairedLines::new, x -> x.sheet(0, of, 61), Edges.BAD);
        }
        e.range("sort", Edges::rich, (x, sort) -> x.sheet(3, sort, 60), -1, 1, 3, 1, Edges.BAD);
        e.sentence(T, "A whole number becomes one of theirs by a cast; one that is no int is MUCH for ints.");
        e.takes("the greatest int", SheetsEdges::four, x -> x.cell(0, 0, Integer.MAX_VALUE), 1);
        e.refuses("one more", SheetsEdges::four, x -> x.cell(0, 0, Integer.MAX_VALUE + 1L), Edges.MUCH);
        e.takes("the least int", SheetsEdges::four, x -> x.cell(0, 0, Integer.MIN_VALUE), 1);
        e.refuses("one less", SheetsEdges::four, x -> x.cell(0, 0, Integer.MIN_VALUE - 1L), Edges.MUCH);
        e.takes("(float) of 2 ^ 24 + 1", SheetsEdges::four, x -> x.cell(2, 0, 16777217) + x.read(2, 0, 2), 1 + 16777216);
        e.takes("(double) of 2 ^ 53 + 1", SheetsEdges::four, x -> x.cell(3, 0, 9007199254740993L) + x.read(3, 0, 2), 1 + 9007199254740992L);
        e.sentence(T, "AN IMAGE keeps how many POINTS there are, TIDE, LINES with KINDS, FIGURES.");
        PairedLines x = Edges.rich();
        x.image();
        x.tree(0, 0);
        x.points(12);
        for (int i = 0; i < 7; i++) {
            x.line(5 - i % 6, 1, 11, i);
        }
        x.tide(9);
        e.due("COUNT 1 of another net", x.counts(0, 1), 1 + 2 + 0 + 11 + 0 + 1 + 1);
        e.due("LINES", x.back(), 6);
        e.due("COUNT 1", x.counts(0, 1), 51);
        e.due("POINTS", x.count(0), 7);
        e.due("TIDE", x.count(2), 4);
        for (int i = 0; i < 6; i++) {
            e.due("KIND", x.told(i, 0), i);
            e.due("FIGURE", x.told(i, 1), i == 0 ? 8 : 7);
            e.due("its POINTS", x.between(i, i + 1), i);
        }
        e.due("not THE TREE", x.node(0, 0), 0);
    }

    private void draws() {
        e.sentence(T, "A DRAW of z: z becomes z * 1103515245 + 12345 (an int), and gives z >>> 8.");
        // by 0: 12345 gives 48; by -1: -1103502900 gives 12466657, by -2147483648: -2147471303 gives 8388656
        e.takes("8 is not less than 8", () -> Edges.apart(1), x -> x.lot(0, 8), 0);
        e.takes("8 is less than 9", () -> Edges.apart(1), x -> x.lot(0, 9), 1);
        e.takes("below nothing: 7 is not less than 7", () -> Edges.apart(1), x -> x.lot(-1, 7), 0);
        e.takes("below nothing: 7 is less than 8", () -> Edges.apart(1), x -> x.lot(-1, 8), 1);
        e.takes("below nothing: 7 is not less than 0", () -> Edges.apart(1), x -> x.lot(-1, 0), 0);
        e.takes("the least int: 6 is not less than 6", () -> Edges.apart(1), x -> x.lot(Integer.MIN_VALUE, 6), 0);
        e.takes("the least int: 6 is less than 7", () -> Edges.apart(1), x -> x.lot(Integer.MIN_VALUE, 7), 1);
        // the second DRAWS: 288979989 gives 1128828, 1406932606 gives 5495830
        e.takes("the second: 8 is not less than 8", () -> Edges.apart(1, 1), x -> x.lot(-1, 8), 1);
        e.takes("the second: 8 is less than 9", () -> Edges.apart(1, 1), x -> x.lot(-1, 9), 3);
        e.takes("the second: 0 is not less than 0", () -> Edges.apart(1, 1), x -> x.lot(Integer.MIN_VALUE, 0), 0);
        e.takes("the second: 0 is less than 1", () -> Edges.apart(1, 1), x -> x.lot(Integer.MIN_VALUE, 1), 2);
    }
}
