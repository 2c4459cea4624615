/** Promises 38, 39 and 41 to 44. */
final class RowsEdges {
    private final Edges e;

    RowsEdges(Edges e) {
        this.e = e;
    }

    void all() {
        writes();
        writesPlaceByPlace();
        same();
        sameIsRefused();
        build();
        buildIsRefused();
        image();
        count();
    }

    private static PairedLines with(PairedLines x, int sort, int n) {
        x.sheet(0, sort, n);
        for (int i = 0; i < n; i++) {
            x.cell(0, i, 77);
        }
        return x;
    }

    private void writes() {
        e.sentence(38, "Places 0, 1, .. of a SHEET become the numbers that THE POLYNOMIAL has at x 0, 1, .. n times: how many.");
        long[] due = {0, -2964, 0, 746, 0, -51, 0, 1, 77};
        for (int sort = 0; sort < 4; sort++) {
            int of = sort;
            e.takes("seven POINTS", () -> with(Edges.rich(), of, 8), x -> x.writes(0, 0), 8);
            PairedLines x = with(Edges.rich(), sort, 9);
            x.writes(0, 0);
            for (int i = 0; i < 9; i++) {
                e.due("place " + i + " of sort " + sort, x.read(0, i, 2), due[i]);
            }
            e.due("of no POINTS", x.writes(0, 127), 1);
            e.due("its one number", x.read(0, 0, 2), 1);
            e.due("what stands behind stays", x.read(0, 1, 2), -2964);
            e.takes("of no POINTS at all", () -> with(new PairedLines(), of, 1), y -> y.writes(0, 0), 1);
            e.takes("of twelve POINTS, in sixty places", () -> with(Edges.forty(), of, 60), y -> y.writes(0, 0), 13);
        }
        e.takes("2 ^ 63 - 1", () -> with(Edges.greatestCount(), 1, 13), x -> x.writes(0, 0) == 13 ? x.read(0, 0, 0) : 99, Long.MAX_VALUE);
        e.takes("1 - 2 ^ 63", () -> with(Edges.greatestOddCount(), 1, 11), x -> x.writes(0, 0) == 11 ? x.read(0, 0, 0) : 99, -Long.MAX_VALUE);
        e.takes("1 - 2 ^ 63 as a float", () -> with(Edges.greatestOddCount(), 2, 11), x -> x.writes(0, 0) == 11 ? x.read(0, 0, 0) : 99, Float.floatToIntBits(-9223372036854775807f));
        e.takes("0 of floats is no 0 less than nothing", () -> with(Edges.apart(0), 2, 3), x -> x.writes(0, 0) == 3 ? x.read(0, 0, 0) : 99, 0);
        e.sentence(38, "BAD;");
        e.range("s", SheetsEdges::four, (x, s) -> x.writes(s, 127), 0, 1, 3, 1, Edges.BAD);
        e.out("writes", () -> with(Edges.rich(), 1, 8), (x, out) -> x.writes(0, out), 8, 1, Edges.BAD);
        e.refuses("ahead of NOTHING", Edges::rich, x -> x.writes(3, 4096), Edges.BAD);
        e.refuses("ahead of MUCH", () -> with(Edges.leastMuch(), 1, 1), x -> x.writes(0, -1), Edges.BAD);
        e.sentence(38, "NOTHING;");
        e.refuses("SHEET 3", Edges::rich, x -> x.writes(3, 0), Edges.NOTHING);
        e.refuses("ahead of MUCH", Edges::leastMuch, x -> x.writes(0, 0), Edges.NOTHING);
        e.sentence(38, "MUCH: a COUNT is;");
        for (int sort = 0; sort < 4; sort++) {
            int of = sort;
            e.refuses("2 ^ 63 of sort " + sort, () -> with(Edges.leastMuch(), of, 13), x -> x.writes(0, 0), Edges.MUCH);
            e.refuses("ahead of PLACE", () -> with(Edges.leastMuch(), of, 0), x -> x.writes(0, 0), Edges.MUCH);
            e.takes("not with a POINT OUT", () -> with(Edges.leastMuch(), of, 1), x -> x.writes(0, 4095), 1);
        }
    }

    private void writesPlaceByPlace() {
        e.sentence(38, "else, place by place, PLACE, MUCH (it is no int): what stands ahead came.");
        long[] due = {0, -2964, 0, 746, 0, -51, 0, 1};
        for (int sort = 0; sort < 4; sort++) {
            for (int n = 0; n <= 8; n++) {
                PairedLines x = with(Edges.rich(), sort, n);
                e.due(n + " places of sort " + sort, x.writes(0, 0), n < 8 ? Edges.PLACE : 8);
                for (int i = 0; i < n; i++) {
                    e.due("place " + i, x.read(0, i, 2), due[i]);
                }
                e.due("no place came", x.read(0, n, 2), Check.PLACE);
            }
        }
        e.takes("2 ^ 31 - 1 is an int", () -> with(Edges.ring(215, 4377, 215, 1259, 215, 29, 200, 1), 0, 9), x -> x.writes(0, 0) + x.read(0, 0, 0), 9L + Integer.MAX_VALUE);
        e.refuses("2 ^ 31 is none", () -> with(Edges.apart(256, 256, 256, 128), 0, 9), x -> x.writes(0, 0), Edges.MUCH);
        e.takes("-2 ^ 31 is an int", () -> with(Edges.apart(2048, 1024, 1024), 0, 7), x -> x.writes(0, 0) + x.read(0, 0, 0), 7L + Integer.MIN_VALUE);
        e.refuses("-2 ^ 31 - 1 is none", () -> with(Edges.ring(2048, 1, 1024, 1, 1024, 1), 0, 7), x -> x.writes(0, 0), Edges.MUCH);
        e.takes("2 ^ 31 is a long", () -> with(Edges.apart(256, 256, 256, 128), 1, 9), x -> x.writes(0, 0) + x.read(0, 0, 0), 9 + (1L << 31));
        // of nine POINTS place 1 has COUNT 4, ahead of it stands a 0
        for (int n = 1; n <= 2; n++) {
            PairedLines x = new PairedLines();
            x.points(9);
            Edges.layApart(x, 256, 256, 256, 128);
            with(x, 0, n);
            e.due("PLACE, as there is one place; MUCH, as there are two", x.writes(0, 0), n == 1 ? Edges.PLACE : Edges.MUCH);
            e.due("what stands ahead came", x.read(0, 0, 0), 0);
            e.due("the next one stays", x.read(0, 1, 0), n == 1 ? Check.PLACE : 77);
        }
    }

    /** COUNTS of the rich net, and 0 behind them. */
    private static PairedLines counted(int sort, int n) {
        PairedLines x = with(Edges.rich(), sort, n);
        for (int k = 0; k < n; k++) {
            x.cell(0, k, k < 7 ? x.counts(0, k) : 0);
        }
        return x;
    }

    private static PairedLines otherAt(int sort, int n, int at) {
        PairedLines x = counted(sort, n);
        x.cell(0, at, x.read(0, at, 2) + 1);
        return x;
    }

    private void same() {
        e.sentence(39, "The first place of a SHEET (of all it has) that isn't COUNT k as it would become one (k from 0 on; behind 6: 0; one that can't be an int isn't);");
        for (int sort = 0; sort < 4; sort++) {
            int of = sort;
            for (int at : new int[] {0, 1, 2, 3, 4, 5, 6, 7, 8, 58, 59}) {
                e.takes("place " + at + " of sort " + sort, () -> otherAt(of, 60, at), x -> x.same(0, 0), at);
            }
            e.takes("two of them", () -> otherAt(of, 60, 7), x -> x.cell(0, 6, 5) + x.same(0, 0), 1 + 6);
            e.takes("by OUT", () -> counted(of, 60), x -> x.same(0, 1), 1);
        }
        PairedLines three = with(Edges.apart(2048, 1024, 1024), 0, 4);
        long[] counts = {1, 4096, 5242880, Integer.MIN_VALUE};
        for (int k = 0; k < 4; k++) {
            three.cell(0, k, counts[k]);
        }
        e.due("2 ^ 31 can't be an int", three.same(0, 0), 3);
        PairedLines ring = with(Edges.ring(215, 4377, 215, 1259, 215, 29, 200, 1), 0, 5);
        for (int k = 0; k < 5; k++) {
            e.due("an int", ring.cell(0, k, ring.counts(0, k)), 1);
        }
        e.due("2 ^ 31 - 1 can", ring.same(0, 0), Edges.NONE);
        PairedLines big = Edges.greatestCount();
        for (int sort = 1; sort < 4; sort++) {
            with(big, sort, 7);
            for (int k = 0; k < 7; k++) {
                big.cell(0, k, big.counts(0, k));
            }
            e.due("2 ^ 63 - 1 by a cast", big.same(0, 0), Edges.NONE);
            big.cell(0, 6, Long.MAX_VALUE - 1);
            e.due("one less, by a cast", big.same(0, 0), sort == 1 ? 6 : Edges.NONE);
        }
        e.sentence(39, "NONE.");
        for (int sort = 0; sort < 4; sort++) {
            for (int n : new int[] {0, 1, 6, 7, 8, 60}) {
                int of = sort;
                e.refuses(n + " places of sort " + sort, () -> counted(of, n), x -> x.same(0, 0), Edges.NONE);
            }
        }
    }

    private void sameIsRefused() {
        e.sentence(39, "BAD;");
        e.range("s", SheetsEdges::four, (x, s) -> x.same(s, 127), 0, 1, 3, 1, Edges.BAD);
        e.out("same", () -> counted(1, 9), (x, out) -> x.same(0, out), Edges.NONE, 1, Edges.BAD);
        e.refuses("ahead of NOTHING", Edges::rich, x -> x.same(3, 4096), Edges.BAD);
        e.refuses("ahead of MUCH", () -> with(Edges.leastMuch(), 1, 1), x -> x.same(0, -1), Edges.BAD);
        e.sentence(39, "NOTHING;");
        e.refuses("SHEET 3", Edges::rich, x -> x.same(3, 0), Edges.NOTHING);
        e.refuses("ahead of MUCH", Edges::leastMuch, x -> x.same(0, 0), Edges.NOTHING);
        e.sentence(39, "MUCH.");
        for (int sort = 0; sort < 4; sort++) {
            int of = sort;
            e.refuses("2 ^ 63", () -> with(Edges.leastMuch(), of, 7), x -> x.same(0, 0), Edges.MUCH);
            e.refuses("of no places", () -> with(Edges.leastMuch(), of, 0), x -> x.same(0, 0), Edges.MUCH);
            e.takes("not with a POINT OUT", () -> with(Edges.leastMuch(), of, 7), x -> x.same(0, 1), 0);
        }
    }

    /** Fifteen LINES on a SHEET of sixty, of KIND 0 .. 5, FIGURES 100, 101, ..: between POINT 0 and 1 .. 11, then 1 and 2 .. 5. */
    private static PairedLines told() {
        PairedLines x = new PairedLines();
        x.points(12);
        x.tide(2);
        x.sheet(0, 0, 60);
        for (int i = 0; i < 15; i++) {
            x.cell(0, 4 * i, i % 6);
            x.cell(0, 4 * i + 1, 100 + i);
            x.cell(0, 4 * i + 2, i < 11 ? 0 : 1);
            x.cell(0, 4 * i + 3, i < 11 ? i + 1 : i - 9);
        }
        return x;
    }

    private static PairedLines toldWith(int place, int v) {
        PairedLines x = told();
        x.cell(0, place, v);
        return x;
    }

    private void build() {
        e.sentence(41, "n (0 .. 15) LINES by a SHEET of ints: four by four from place from on, as of line(): how many came (those that are refused are left out).");
        e.range("n", RowsEdges::told, (x, n) -> x.build(0, 0, n), 0, 0, 15, 15, Edges.BAD);
        for (int n = 0; n <= 15; n++) {
            PairedLines x = told();
            x.build(0, 60 - 4 * n, n);
            e.due("the last " + n, x.count(1), n);
            for (int i = 0; i < n; i++) {
                e.due("KIND of " + i, x.told(i, 0), (15 - n + i) % 6);
                e.due("FIGURE of " + i, x.told(i, 1), 115 - n + i);
                e.due("lesser POINT of " + i, x.told(i, 3), 15 - n + i < 11 ? 0 : 1);
            }
        }
        e.takes("from place 2 on: FIGURES as POINTS", RowsEdges::told, x -> x.build(0, 2, 1), 0);
        e.takes("none, from anywhere", RowsEdges::told, x -> x.build(0, 61, 0) + x.build(0, -1, 0) + x.build(0, Integer.MAX_VALUE, 0), 0);
        int[][] wrong = {{0, 6}, {0, -1}, {1, 10000}, {1, -1}, {2, 12}, {2, -1}, {3, 12}, {3, 0}, {3, -1}};
        for (int[] w : wrong) {
            PairedLines x = toldWith(w[0], w[1]);
            e.due("the first is refused: " + w[0] + " is " + w[1], x.build(0, 0, 3), 2);
            e.due("the second is LINE 0", x.told(0, 1), 101);
        }
        PairedLines x = told();
        x.build(0, 0, 15);
        e.due("all have one", x.build(0, 0, 15), 0);
        e.due("so that none came", x.count(1), 15);
        PairedLines full = Edges.forty();
        full.drop(39);
        full.sheet(0, 0, 8);
        int[] two = {0, 1, 10, 11, 0, 1, 9, 11};
        for (int i = 0; i < 8; i++) {
            full.cell(0, i, two[i]);
        }
        e.due("FULL, from the second on", full.build(0, 0, 2), 1);
        e.due("forty", full.count(1), 40);
    }

    private void buildIsRefused() {
        e.sentence(41, "BAD: s, n;");
        e.beyond("s", RowsEdges::told, (x, s) -> x.build(s, 0, 1), 0, 3, Edges.BAD);
        e.beyond("n", RowsEdges::told, (x, n) -> x.build(0, 0, n), 0, 15, Edges.BAD);
        e.refuses("ahead of NOTHING", Edges::rich, x -> x.build(3, 0, 16), Edges.BAD);
        e.refuses("ahead of KIND", Edges::rich, x -> x.build(1, 0, -1), Edges.BAD);
        e.refuses("ahead of PLACE", RowsEdges::told, x -> x.build(0, 60, 16), Edges.BAD);
        e.sentence(41, "NOTHING;");
        e.refuses("SHEET 3", Edges::rich, x -> x.build(3, 0, 1), Edges.NOTHING);
        e.refuses("none of it", Edges::rich, x -> x.build(3, 0, 0), Edges.NOTHING);
        e.refuses("ahead of PLACE", Edges::rich, x -> x.build(3, -1, 15), Edges.NOTHING);
        e.sentence(41, "KIND: it is none of ints;");
        for (int s = 1; s < 4; s++) {
            int sheet = s;
            e.refuses("of sort " + s, SheetsEdges::four, x -> x.build(sheet, 0, 1), Edges.KIND);
            e.refuses("none of sort " + s, SheetsEdges::four, x -> x.build(sheet, 0, 0), Edges.KIND);
            e.refuses("ahead of PLACE, of sort " + s, SheetsEdges::four, x -> x.build(sheet, 4, 1), Edges.KIND);
        }
        e.sentence(41, "PLACE (one of the four): what stood ahead came.");
        e.range("from", RowsEdges::told, (x, from) -> x.build(0, from, 1), 0, 1, 56, 1, Edges.PLACE);
        e.refuses("from near the greatest: four more go round", RowsEdges::told, x -> x.build(0, Integer.MAX_VALUE - 2, 2), Edges.PLACE);
        e.refuses("from near the least", RowsEdges::told, x -> x.build(0, Integer.MIN_VALUE + 3, 15), Edges.PLACE);
        e.refuses("from -4: the second would be there", RowsEdges::told, x -> x.build(0, -4, 2), Edges.PLACE);
        for (int n = 12; n <= 16; n++) {
            PairedLines x = told();
            int size = n;
            x.sheet(1, 0, n);
            x.copy(0, 0, 1, 0, n);
            e.due("four LINES of " + n + " places", x.build(1, 0, 4), size < 16 ? Edges.PLACE : 4);
            e.due("what stood ahead came", x.count(1), size < 16 ? 3 : 4);
        }
        PairedLines x = told();
        e.due("fifteen from place 4 on", x.build(0, 4, 15), Edges.PLACE);
        e.due("fourteen came", x.count(1), 14);
        e.due("the last of them", x.told(13, 1), 114);
    }

    private void image() {
        e.sentence(42, "AN IMAGE is kept: how many LINES there are.");
        e.takes("of none", PairedLines::new, x -> x.image(), 0);
        e.takes("of six", Edges::rich, x -> x.image(), 6);
        e.takes("of forty", Edges::forty, x -> x.image(), 40);
        PairedLines x = Edges.rich();
        x.drop(0);
        e.due("another one", x.image(), 5);
        x.points(3);
        e.due("the last one counts", x.back(), 5);
        e.sentence(43, "All that it keeps is as in THE IMAGE: how many LINES there are.");
        x = Edges.rich();
        e.due("six", x.back(), 6);
        e.due("FIGURE of LINE 0", x.told(0, 1), 7);
        e.due("TIDE", x.count(2), 3);
        e.due("THE TREE stays", x.count(3), 7);
        e.due("what lies on a RACK, by TIDE", x.of(0, 1), 17);
        e.due("a SHEET stays", x.read(0, 0, 0), 11);
        x.points(0);
        e.due("again", x.back(), 6);
        e.due("POINTS", x.count(0), 7);
        x = new PairedLines();
        x.image();
        x.points(12);
        x.line(0, 1, 0, 1);
        x.tide(9);
        e.due("of none", x.back(), 0);
        e.due("no POINTS", x.count(0), 0);
        e.due("no LINES", x.told(0, 0), Edges.BAD);
        e.due("TIDE 0", x.count(2), 0);
        x = Edges.forty();
        x.image();
        x.points(1);
        e.due("forty", x.back(), 40);
        e.due("the last of them", x.between(4, 6), 39);
        e.due("it is full", x.line(0, 1, 10, 11), Edges.FULL);
        x.drop(0);
        x.set(0, 55);
        e.due("what comes behind it does not change it", x.back(), 40);
        e.due("its FIGURES", x.told(1, 1), 1);
        e.sentence(43, "STATE: there is none.");
        e.refuses("at first", PairedLines::new, y -> y.back(), Edges.STATE);
        e.refuses("of forty", Edges::forty, y -> y.back(), Edges.STATE);
    }

    private void count() {
        e.sentence(44, "0 POINTS, 1 LINES, 2 TIDE, 3 NODES of THE TREE.");
        e.range("what", Edges::rich, (x, what) -> x.count(what), 0, 7, 3, 7, Edges.BAD);
        e.takes("LINES", Edges::rich, x -> x.count(1), 6);
        e.takes("TIDE", Edges::rich, x -> x.count(2), 4);
        for (int what = 0; what < 4; what++) {
            int of = what;
            e.takes("of a new object", PairedLines::new, x -> x.count(of), 0);
        }
        e.takes("twelve", Edges::forty, x -> x.count(0), 12);
        e.takes("forty", Edges::forty, x -> x.count(1), 40);
        e.sentence(44, "BAD.");
        e.beyond("what", PairedLines::new, (x, what) -> x.count(what), 0, 3, Edges.BAD);
    }
}
