/** Promises 34 to 37 and 40. */
final class SheetsEdges {
    private static final long BAD = Check.BAD;
    private static final long NOTHING = Check.NOTHING;
    private static final long PLACE = Check.PLACE;

    private final Edges e;

    SheetsEdges(Edges e) {
        this.e = e;
    }

    void all() {
        sheet();
        sheetIsRefused();
        cell();
        readAsItIs();
        readByCasts();
        readIsRefused();
        parts();
        copy();
        copyIsRefused();
    }

    /** SHEET s is of sort s, 1, 2, 3 and 4 standing there. */
    static PairedLines four() {
        PairedLines x = Edges.rich();
        for (int s = 0; s < 4; s++) {
            x.sheet(s, s, 4);
            for (int i = 0; i < 4; i++) {
                x.cell(s, i, i + 1);
            }
        }
        return x;
    }

    private static PairedLines sixty(int sort) {
        PairedLines x = new PairedLines();
        x.sheet(3, sort, 60);
        return x;
    }

    private void sheet() {
        e.sentence(34, "A SHEET becomes a row of n of a sort, all 0,");
        for (int sort = 0; sort < 4; sort++) {
            for (int n : new int[] {0, 1, 59, 60}) {
                PairedLines x = four();
                e.due("sheet(1, " + sort + ", " + n + ")", x.sheet(1, sort, n), 1);
                for (int i = 0; i < n; i++) {
                    e.due("0 at " + i, x.read(1, i, 0), 0);
                }
                e.due("behind the last place", x.read(1, n, 0), PLACE);
                e.due("written behind the last place", x.cell(1, n, 1), Edges.PLACE);
                e.due("the last place", x.cell(1, n - 1, 1), n == 0 ? Edges.PLACE : 1);
                e.due("of which sort it is", x.copy(sort, 0, 1, 0, 0), 0);
            }
            PairedLines x = four();
            x.sheet(sort, sort, 4);
            e.due("all 0 again", x.read(sort, 3, 2), 0);
            x.cell(sort, 3, 7);
            x.sheet(sort, sort, 2);
            x.sheet(sort, sort, 4);
            e.due("0 even as it was shorter for a time", x.read(sort, 3, 2), 0);
            x.cell(sort, 3, 7);
            x.sheet(sort, (sort + 1) % 4, 4);
            x.sheet(sort, sort, 4);
            e.due("0 even as it was of another sort for a time", x.read(sort, 3, 2), 0);
            x.cell(sort, 3, 7);
            x.sheet(sort, -1, 4);
            x.sheet(sort, sort, 4);
            e.due("0 even as it was missing for a time", x.read(sort, 3, 2), 0);
        }
    }

    private void sheetIsRefused() {
        e.sentence(34, "or missing (sort -1; n does not matter): 1.");
        for (int n : new int[] {0, 60, 61, -1, Integer.MAX_VALUE, Integer.MIN_VALUE}) {
            PairedLines x = four();
            e.due("sheet(1, -1, " + n + ")", x.sheet(1, -1, n), 1);
            e.due("missing", x.read(1, 0, 0), NOTHING);
            e.due("missing again", x.sheet(1, -1, n), 1);
            e.due("the next one isn't", x.read(2, 3, 2), 4);
        }
        e.sentence(34, "BAD: s, sort, n above 60;");
        e.range("s", SheetsEdges::four, (x, s) -> x.sheet(s, 0, 3), 0, 1, 3, 1, Edges.BAD);
        e.range("sort", SheetsEdges::four, (x, sort) -> x.sheet(0, sort, 3), -1, 1, 3, 1, Edges.BAD);
        for (int sort = 0; sort < 4; sort++) {
            int of = sort;
            e.takes("n 60", SheetsEdges::four, x -> x.sheet(of, of, 60), 1);
            e.refuses("n 61", SheetsEdges::four, x -> x.sheet(of, of, 61), Edges.BAD);
            e.refuses("n far above", SheetsEdges::four, x -> x.sheet(of, of, Integer.MAX_VALUE), Edges.BAD);
        }
        e.refuses("s, to be missing", SheetsEdges::four, x -> x.sheet(4, -1, 0), Edges.BAD);
        e.refuses("ahead of SIZE: s", SheetsEdges::four, x -> x.sheet(-1, 0, -1), Edges.BAD);
        e.refuses("ahead of SIZE: sort", SheetsEdges::four, x -> x.sheet(0, 4, -1), Edges.BAD);
        e.refuses("ahead of SIZE: sort below -1", SheetsEdges::four, x -> x.sheet(0, -2, -1), Edges.BAD);
        e.sentence(34, "SIZE: n below 0.");
        for (int sort = 0; sort < 4; sort++) {
            int of = sort;
            e.takes("n 0", SheetsEdges::four, x -> x.sheet(of, of, 0), 1);
            e.refuses("n -1", SheetsEdges::four, x -> x.sheet(of, of, -1), Edges.SIZE);
            e.refuses("n far below", SheetsEdges::four, x -> x.sheet(of, of, Integer.MIN_VALUE), Edges.SIZE);
        }
        e.refuses("n -1 of a missing one", Edges::rich, x -> x.sheet(3, 0, -1), Edges.SIZE);
    }

    private void cell() {
        e.sentence(35, "Place i of a SHEET becomes v: 1.");
        long[] numbers = {0, 1, -1, Integer.MAX_VALUE, Integer.MIN_VALUE, Integer.MAX_VALUE + 1L, Integer.MIN_VALUE - 1L, Long.MAX_VALUE, Long.MIN_VALUE,
            16777216, 16777217, 16777219, 9007199254740992L, 9007199254740993L, 9007199254740995L};
        for (long v : numbers) {
            if (v == (int) v) {
                e.takes(v + " to ints", SheetsEdges::four, x -> 10 * x.cell(0, 3, v) + x.read(0, 3, 0), 10 + v);
            }
            e.takes(v + " to longs", SheetsEdges::four, x -> x.cell(1, 3, v) == 1 ? x.read(1, 3, 0) : 99, v);
            e.takes(v + " to floats", SheetsEdges::four, x -> x.cell(2, 3, v) == 1 ? x.read(2, 3, 0) : 99, Float.floatToIntBits((float) v));
            e.takes(v + " to doubles", SheetsEdges::four, x -> x.cell(3, 3, v) == 1 ? x.read(3, 3, 0) : 99, Double.doubleToLongBits((double) v));
        }
        e.takes("the one before stays", SheetsEdges::four, x -> x.cell(1, 3, 9) + x.read(1, 2, 0), 1 + 3);
        e.sentence(35, "BAD: s;");
        e.range("s", SheetsEdges::four, (x, s) -> x.cell(s, 0, 5), 0, 1, 3, 1, Edges.BAD);
        e.refuses("ahead of PLACE", SheetsEdges::four, x -> x.cell(4, 99, 5), Edges.BAD);
        e.refuses("ahead of NOTHING", PairedLines::new, x -> x.cell(4, 0, 5), Edges.BAD);
        e.sentence(35, "NOTHING;");
        e.refuses("SHEET 3", Edges::rich, x -> x.cell(3, 0, 5), Edges.NOTHING);
        e.refuses("ahead of PLACE", Edges::rich, x -> x.cell(3, -1, 5), Edges.NOTHING);
        e.refuses("at first", PairedLines::new, x -> x.cell(0, 0, Long.MAX_VALUE), Edges.NOTHING);
        e.sentence(35, "PLACE;");
        for (int sort = 0; sort < 4; sort++) {
            int of = sort;
            e.range("i", SheetsEdges::four, (x, i) -> x.cell(of, i, 5), 0, 1, 3, 1, Edges.PLACE);
            e.range("i of sixty", () -> sixty(of), (x, i) -> x.cell(3, i, 5), 0, 1, 59, 1, Edges.PLACE);
        }
        e.refuses("ahead of MUCH", SheetsEdges::four, x -> x.cell(0, 4, Long.MAX_VALUE), Edges.PLACE);
        e.sentence(35, "MUCH.");
        for (long v : new long[] {Integer.MAX_VALUE + 1L, Integer.MIN_VALUE - 1L, 1L << 32, -(1L << 32), Long.MAX_VALUE, Long.MIN_VALUE}) {
            e.refuses(v + " to ints", SheetsEdges::four, x -> x.cell(0, 3, v), Edges.MUCH);
        }
    }

    private void readAsItIs() {
        e.sentence(36, "Place i of a SHEET: how 0 as it is (floats, doubles as of Float.floatToIntBits(), Double.doubleToLongBits()),");
        e.takes("the least int", SheetsEdges::four, x -> x.cell(0, 0, Integer.MIN_VALUE) + x.read(0, 0, 0), 1L + Integer.MIN_VALUE);
        e.takes("the least long", SheetsEdges::four, x -> x.cell(1, 0, Long.MIN_VALUE) + x.read(1, 0, 0), 1 + Long.MIN_VALUE);
        e.takes("a float below nothing: its bits are an int's", SheetsEdges::four, x -> x.cell(2, 0, -1) + x.read(2, 0, 0), 1L + Float.floatToIntBits(-1.0f));
        e.takes("a double below nothing", SheetsEdges::four, x -> x.cell(3, 0, -1) + x.read(3, 0, 0), 1 + Double.doubleToLongBits(-1.0));
        float f = -1.0f;
        double d = 1.0;
        PairedLines x = four();
        x.cell(2, 0, -1);
        x.cell(3, 0, 1);
        for (int i = 0; i < 180; i++) {
            x.parts(2, 0, 99);
            x.parts(3, 0, 99);
            f /= 99;
            d /= 99;
            e.due("a float ever nearer to nothing, " + i, x.read(2, 0, 0), Float.floatToIntBits(f));
            e.due("a double ever nearer to nothing, " + i, x.read(3, 0, 0), Double.doubleToLongBits(d));
        }
        e.due("a 0 that is less than nothing", x.read(2, 0, 0), Integer.MIN_VALUE);
        e.due("a 0", x.read(3, 0, 0), 0);
    }

    /** Halved n times by 2: the powers of two down to the least, and past it. */
    private void leastNumbers() {
        PairedLines x = four();
        x.cell(2, 0, 1);
        x.cell(3, 0, 3);
        float f = 1.0f;
        double d = 3.0;
        for (int i = 0; i < 540; i++) {
            x.parts(2, 0, 2);
            x.parts(3, 0, 4);
            f /= 2;
            d /= 4;
            e.due("a float by halves, " + i, x.read(2, 0, 0), Float.floatToIntBits(f));
            e.due("a double by fourths, " + i, x.read(3, 0, 0), Double.doubleToLongBits(d));
            e.due("that double as a float, " + i, x.read(3, 0, 3), Float.floatToIntBits((float) d));
        }
    }

    private void readByCasts() {
        long[] numbers = {0, 127, 128, 255, 256, -128, -129, 16777217, Integer.MAX_VALUE, Integer.MIN_VALUE, Integer.MAX_VALUE + 1L, Integer.MIN_VALUE - 1L,
            1L << 32, (1L << 32) + 200, Long.MAX_VALUE, Long.MIN_VALUE, 9007199254740993L};
        String[] words = {"1 as an (int),", "2 as a (long),", "3 as Float.floatToIntBits((float) of it),", "4 as a (byte) of the (int)."};
        for (int h = 1; h <= 4; h++) {
            int how = h;
            e.sentence(36, words[h - 1]);
            for (long v : numbers) {
                for (int sort = v == (int) v ? 0 : 1; sort < 4; sort++) {
                    int of = sort;
                    e.takes(v + " of sort " + sort, SheetsEdges::four, x -> x.cell(of, 1, v) == 1 ? x.read(of, 1, how) : 99, byHost(of, v, how));
                }
            }
            if (how == 1) {
                e.takes("-7 / 2 of floats", SheetsEdges::four, x -> x.cell(2, 0, -7) + x.parts(2, 0, 2) + x.read(2, 0, 1), 2 - 3);
                e.takes("7 / 4 of doubles", SheetsEdges::four, x -> x.cell(3, 0, 7) + x.parts(3, 0, 4) + x.read(3, 0, 1), 2 + 1);
            }
            if (how == 2) {
                e.takes("-7 / 2 of doubles", SheetsEdges::four, x -> x.cell(3, 0, -7) + x.parts(3, 0, 2) + x.read(3, 0, 2), 2 - 3);
            }
            if (how == 3) {
                leastNumbers();
            }
        }
    }

    private static long byHost(int sort, long v, int how) {
        double d = sort == 2 ? (float) v : (double) v;
        long whole = sort < 2 ? v : (long) d;
        int cut = sort < 2 ? (int) v : (int) d;
        switch (how) {
            case 1:
                return cut;
            case 2:
                return whole;
            case 3:
                return Float.floatToIntBits(sort < 3 ? (float) v : (float) d);
            default:
                return (byte) cut;
        }
    }

    private void readIsRefused() {
        e.sentence(36, "BAD: s, how;");
        e.range("s", SheetsEdges::four, (x, s) -> x.read(s, 2, 2), 0, 3, 3, 3, BAD);
        e.range("how", SheetsEdges::four, (x, how) -> x.read(0, 2, how), 0, 3, 4, 3, BAD);
        e.refuses("ahead of NOTHING: s", PairedLines::new, x -> x.read(4, 0, 0), BAD);
        e.refuses("ahead of NOTHING: how", PairedLines::new, x -> x.read(0, 0, 5), BAD);
        e.refuses("ahead of PLACE", SheetsEdges::four, x -> x.read(0, 4, -1), BAD);
        e.sentence(36, "NOTHING;");
        e.refuses("at first", PairedLines::new, x -> x.read(0, 0, 0), NOTHING);
        e.refuses("SHEET 3", Edges::rich, x -> x.read(3, 0, 4), NOTHING);
        e.refuses("ahead of PLACE", Edges::rich, x -> x.read(3, -1, 0), NOTHING);
        e.sentence(36, "PLACE.");
        for (int sort = 0; sort < 4; sort++) {
            int of = sort;
            e.range("i", SheetsEdges::four, (x, i) -> x.read(of, i, 2), 0, 1, 3, 4, PLACE);
            e.range("i of sixty", () -> sixty(of), (x, i) -> x.read(3, i, 0), 0, 0, 59, 0, PLACE);
        }
    }

    private void parts() {
        e.sentence(37, "Place i of a SHEET becomes a part of m (1 .. 99) of it, by / of its sort: 1.");
        for (long v : new long[] {1, -1, 98, -98, 99, -100, Integer.MAX_VALUE, Integer.MIN_VALUE, Long.MAX_VALUE, Long.MIN_VALUE}) {
            for (int m : new int[] {1, 2, 98, 99}) {
                if (v == (int) v) {
                    e.takes(v + " / " + m + " of ints", SheetsEdges::four, x -> x.cell(0, 3, v) + x.parts(0, 3, m) + x.read(0, 3, 0), 2 + (long) ((int) v / m));
                }
                e.takes(v + " / " + m + " of longs", SheetsEdges::four, x -> x.cell(1, 3, v) + x.parts(1, 3, m) + x.read(1, 3, 0), 2 + v / m);
                e.takes(v + " / " + m + " of floats", SheetsEdges::four, x -> x.cell(2, 3, v) + x.parts(2, 3, m) + x.read(2, 3, 0), 2L + Float.floatToIntBits((float) v / m));
                e.takes(v + " / " + m + " of doubles", SheetsEdges::four, x -> x.cell(3, 3, v) + x.parts(3, 3, m) + x.read(3, 3, 0), 2 + Double.doubleToLongBits((double) v / m));
            }
        }
        e.range("m", SheetsEdges::four, (x, m) -> x.parts(3, 3, m), 1, 1, 99, 1, Edges.BAD);
        e.sentence(37, "BAD: s, m;");
        e.range("s", SheetsEdges::four, (x, s) -> x.parts(s, 2, 2), 0, 1, 3, 1, Edges.BAD);
        for (int sort = 0; sort < 4; sort++) {
            int of = sort;
            e.beyond("m of sort " + sort, SheetsEdges::four, (x, m) -> x.parts(of, 2, m), 1, 99, Edges.BAD);
        }
        e.refuses("ahead of NOTHING: m", Edges::rich, x -> x.parts(3, 0, 0), Edges.BAD);
        e.refuses("ahead of PLACE: m", SheetsEdges::four, x -> x.parts(0, 4, 100), Edges.BAD);
        e.sentence(37, "NOTHING;");
        e.refuses("at first", PairedLines::new, x -> x.parts(0, 0, 1), Edges.NOTHING);
        e.refuses("ahead of PLACE", Edges::rich, x -> x.parts(3, -1, 1), Edges.NOTHING);
        e.sentence(37, "PLACE.");
        for (int sort = 0; sort < 4; sort++) {
            int of = sort;
            e.range("i", SheetsEdges::four, (x, i) -> x.parts(of, i, 2), 0, 1, 3, 1, Edges.PLACE);
        }
    }

    private void copy() {
        e.sentence(40, "n numbers of a SHEET, from place i on, come to another one (or the same), from place j on, as they were: n.");
        for (int sort = 0; sort < 4; sort++) {
            int of = sort;
            int to = (sort + 1) % 4;
            Edges.Maker two = () -> twoOf(of, to);
            e.takes("all of four to the end of six", two, x -> x.copy(of, 0, to, 2, 4), 4);
            e.takes("the last to the last", two, x -> x.copy(of, 3, to, 5, 1) + 10 * x.read(to, 5, 2), 1 + 40);
            e.takes("the first to the first", two, x -> x.copy(of, 0, to, 0, 1) + 10 * x.read(to, 0, 2), 1 + 10);
            e.takes("the one behind stays", two, x -> x.copy(of, 0, to, 0, 4) + x.read(to, 4, 2), 4 + 0);
            e.takes("the one ahead stays", two, x -> x.copy(of, 0, to, 2, 4) + x.read(to, 1, 2), 4 + 0);
            e.takes("what was copied stays", two, x -> x.copy(of, 0, to, 2, 4) + x.read(of, 3, 2), 4 + 4);
            e.takes("none", two, x -> x.copy(of, 1, to, 1, 0), 0);
            e.takes("none, right behind the last", two, x -> x.copy(of, 4, to, 6, 0), 0);
            long[] up = {1, 1, 2, 3};
            long[] down = {2, 3, 4, 4};
            for (int i = 0; i < 4; i++) {
                int at = i;
                e.takes("the same, one place up, " + i, two, x -> x.copy(of, 0, of, 1, 3) + 10 * x.read(of, at, 2), 3 + 10 * up[at]);
                e.takes("the same, one place down, " + i, two, x -> x.copy(of, 1, of, 0, 3) + 10 * x.read(of, at, 2), 3 + 10 * down[at]);
                e.takes("the same to the same place, " + i, two, x -> x.copy(of, 0, of, 0, 4) + 10 * x.read(of, at, 2), 4 + 10 * (at + 1));
            }
        }
        PairedLines x = twoOf(2, 3);
        x.cell(2, 0, -1);
        for (int i = 0; i < 60; i++) {
            x.parts(2, 0, 99);
        }
        x.copy(2, 0, 3, 0, 1);
        e.due("a 0 that is less than nothing stays so", x.read(3, 0, 0), Integer.MIN_VALUE);
    }

    /** SHEETS of one sort: 1, 2, 3, 4 at one, six places of 0 at the other. */
    private static PairedLines twoOf(int sort, int to) {
        PairedLines x = four();
        x.sheet(to, sort, 6);
        return x;
    }

    private void copyIsRefused() {
        e.sentence(40, "BAD: a sheet;");
        e.range("from", SheetsEdges::four, (x, from) -> x.copy(from, 0, from, 0, 1), 0, 1, 3, 1, Edges.BAD);
        e.beyond("to", SheetsEdges::four, (x, to) -> x.copy(0, 0, to, 0, 1), 0, 3, Edges.BAD);
        e.beyond("from, to", SheetsEdges::four, (x, from) -> x.copy(from, 0, 0, 0, 1), 0, 3, Edges.BAD);
        e.refuses("ahead of NOTHING", Edges::rich, x -> x.copy(3, 0, 4, 0, 1), Edges.BAD);
        e.refuses("ahead of PLACE", SheetsEdges::four, x -> x.copy(-1, -1, 0, -1, -1), Edges.BAD);
        e.sentence(40, "NOTHING: one is missing;");
        e.refuses("from", Edges::rich, x -> x.copy(3, 0, 0, 0, 1), Edges.NOTHING);
        e.refuses("to", Edges::rich, x -> x.copy(0, 0, 3, 0, 1), Edges.NOTHING);
        e.refuses("both", Edges::rich, x -> x.copy(3, 0, 3, 0, 0), Edges.NOTHING);
        e.refuses("ahead of PLACE", Edges::rich, x -> x.copy(0, 0, 3, 0, -1), Edges.NOTHING);
        e.sentence(40, "KIND: they are of unlike sorts;");
        for (int a = 0; a < 4; a++) {
            for (int b = 0; b < 4; b++) {
                int from = a;
                int to = b;
                if (a != b) {
                    e.refuses(a + " and " + b, SheetsEdges::four, x -> x.copy(from, 0, to, 0, 1), Edges.KIND);
                    e.refuses("none of " + a + " and " + b, SheetsEdges::four, x -> x.copy(from, 0, to, 0, 0), Edges.KIND);
                    e.refuses("ahead of PLACE: " + a + " and " + b, SheetsEdges::four, x -> x.copy(from, 4, to, 0, 1), Edges.KIND);
                }
            }
        }
        e.sentence(40, "PLACE (also n below 0).");
        for (int sort = 0; sort < 4; sort++) {
            int of = sort;
            int to = (sort + 1) % 4;
            Edges.Maker two = () -> twoOf(of, to);
            e.range("n, by the one", two, (x, n) -> x.copy(of, 0, to, 0, n), 0, 0, 4, 4, Edges.PLACE);
            e.range("n, by the other", two, (x, n) -> x.copy(of, 0, to, 4, n), 0, 0, 2, 2, Edges.PLACE);
            e.range("i", two, (x, i) -> x.copy(of, i, to, 0, 2), 0, 2, 2, 2, Edges.PLACE);
            e.range("j", two, (x, j) -> x.copy(of, 0, to, j, 2), 0, 2, 4, 2, Edges.PLACE);
            e.range("i of none", two, (x, i) -> x.copy(of, i, to, 0, 0), 0, 0, 4, 0, Edges.PLACE);
            e.range("j of none", two, (x, j) -> x.copy(of, 0, to, j, 0), 0, 0, 6, 0, Edges.PLACE);
            e.refuses("i and n go round", two, x -> x.copy(of, 2, to, 0, Integer.MAX_VALUE), Edges.PLACE);
            e.refuses("j and n go round", two, x -> x.copy(of, 0, to, 6, Integer.MAX_VALUE), Edges.PLACE);
        }
    }
}
