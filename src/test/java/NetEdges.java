/** Promises 1 to 10. */
final class NetEdges {
    private final Edges e;

    NetEdges(Edges e) {
        this.e = e;
    }

    void all() {
        aNewObject();
        points();
        lineComes();
        lineIsRefused();
        told();
        set();
        turns();
        drop();
        tide();
        between();
        near();
    }

    private void aNewObject() {
        e.sentence(1, "No POINTS, no LINES.");
        e.takes("POINTS", PairedLines::new, x -> x.count(0), 0);
        e.takes("LINES", PairedLines::new, x -> x.count(1), 0);
        e.refuses("near(0, 0)", PairedLines::new, x -> x.near(0, 0), Edges.BAD);
        e.refuses("told(0, 0)", PairedLines::new, x -> x.told(0, 0), Edges.BAD);
        e.refuses("drop(0)", PairedLines::new, x -> x.drop(0), Edges.BAD);
        e.refuses("isPairing(1)", PairedLines::new, x -> x.isPairing(1), Edges.BAD);
        e.takes("isPairing(0)", PairedLines::new, x -> x.isPairing(0), 1);
        e.takes("listed(0, -1)", PairedLines::new, x -> x.listed(0, -1), 1);
        e.takes("listed(1, -1)", PairedLines::new, x -> x.listed(1, -1), 0);
        e.takes("lot(1, 10)", PairedLines::new, x -> x.lot(1, 10), 0);
        e.takes("coef(0, 0)", PairedLines::new, x -> x.coef(0, 0), 1);
        e.takes("image()", PairedLines::new, x -> x.image(), 0);
    }

    private void points() {
        e.sentence(2, "There are n POINTS (0 .. 12) then,");
        e.range("points", Edges::rich, (x, n) -> x.points(n), 0, 7, 12, 7, Edges.BAD);
        for (int n = 0; n <= 12; n++) {
            PairedLines x = Edges.rich();
            x.points(n);
            e.due("POINTS", x.count(0), n);
            e.due("the last POINT", x.near(n - 1, 0), n == 0 ? Edges.BAD : 0);
            e.due("behind the last POINT", x.near(n, 0), Edges.BAD);
            e.due("a POINT more is OUT or not, all the same", x.coef(4095 << n & 4095, n), 1);
        }
        e.sentence(2, "and no LINES:");
        PairedLines x = Edges.rich();
        x.points(7);
        e.due("no LINES, of as many POINTS as before", x.count(1), 0);
        e.due("the first LINE is none", x.told(0, 0), Edges.BAD);
        e.due("POINTS 0 and 1", x.between(0, 1), Edges.NONE);
        e.due("near", x.near(1, 0), 0);
        e.due("COUNT 1", x.counts(0, 1), 0);
        e.due("the next LINE is the first", x.line(0, 1, 1, 0), 0);
        e.sentence(2, "how many POINTS there were.");
        x = new PairedLines();
        e.due("none at first", x.points(12), 0);
        e.due("twelve", x.points(12), 12);
        e.due("twelve again", x.points(0), 12);
        e.due("none", x.points(1), 0);
        e.sentence(2, "BAD.");
        e.refuses("-1 of a new object", PairedLines::new, y -> y.points(-1), Edges.BAD);
        e.refuses("13 of forty LINES", Edges::forty, y -> y.points(13), Edges.BAD);
    }

    private void lineComes() {
        e.sentence(3, "One more LINE: its number.");
        PairedLines x = new PairedLines();
        x.points(12);
        int next = 0;
        for (int a = 11; a > 0 && next < 40; a--) {
            for (int b = 0; b < a && next < 40; b++) {
                e.due("LINE " + next, x.line(next % 6, next, a, b), next);
                next++;
            }
        }
        e.due("forty", x.count(1), 40);
        x.drop(0);
        e.due("after a drop it is the last one too", x.line(0, 1, 1, 0), 39);
        e.due("it is that one", x.between(0, 1), 39);
        e.sentence(3, "BAD: kind,");
        e.range("kind", Edges::rich, (y, kind) -> y.line(kind, 1, 0, 2), 0, 6, 5, 6, Edges.BAD);
        e.sentence(3, "figure,");
        e.range("figure", Edges::rich, (y, figure) -> y.line(1, figure, 0, 2), 0, 6, 9999, 6, Edges.BAD);
        e.sentence(3, "no such POINTS,");
        e.range("a", Edges::rich, (y, a) -> y.line(0, 1, a, 3), 0, 6, 6, 6, Edges.BAD);
        e.range("b", Edges::rich, (y, b) -> y.line(0, 1, 3, b), 0, 6, 6, 6, Edges.BAD);
        e.refuses("none of the two", Edges::rich, y -> y.line(0, 1, -1, 7), Edges.BAD);
        e.refuses("no POINTS at all", PairedLines::new, y -> y.line(0, 1, 0, 1), Edges.BAD);
        e.sentence(3, "one and the same;");
        for (int a = 0; a < 7; a++) {
            int same = a;
            e.refuses("POINT " + a, Edges::rich, y -> y.line(0, 1, same, same), Edges.BAD);
        }
    }

    private void lineIsRefused() {
        e.sentence(3, "STATE: these have one;");
        e.refuses("POINTS 0 and 1", Edges::rich, x -> x.line(0, 1, 0, 1), Edges.STATE);
        e.refuses("POINTS 1 and 0", Edges::rich, x -> x.line(0, 1, 1, 0), Edges.STATE);
        e.refuses("the last two", Edges::rich, x -> x.line(5, 9999, 6, 5), Edges.STATE);
        e.refuses("kind ahead of it", Edges::rich, x -> x.line(6, 1, 0, 1), Edges.BAD);
        e.refuses("figure ahead of it", Edges::rich, x -> x.line(0, 10000, 0, 1), Edges.BAD);
        PairedLines x = Edges.rich();
        x.drop(0);
        e.due("they have none any more", x.line(0, 1, 1, 0), 5);
        e.sentence(3, "FULL.");
        e.refuses("a 41st", Edges::forty, y -> y.line(0, 1, 10, 11), Edges.FULL);
        e.refuses("BAD ahead of it: kind", Edges::forty, y -> y.line(-1, 1, 10, 11), Edges.BAD);
        e.refuses("BAD ahead of it: figure", Edges::forty, y -> y.line(0, -1, 10, 11), Edges.BAD);
        e.refuses("BAD ahead of it: no such POINT", Edges::forty, y -> y.line(0, 1, 10, 12), Edges.BAD);
        e.refuses("BAD ahead of it: the same", Edges::forty, y -> y.line(0, 1, 11, 11), Edges.BAD);
        e.refuses("STATE ahead of it", Edges::forty, y -> y.line(0, 1, 6, 4), Edges.STATE);
        x = Edges.forty();
        x.drop(39);
        e.due("a fortieth", x.line(0, 1, 10, 11), 39);
        e.due("a 41st", x.line(0, 1, 4, 6), Edges.FULL);
    }

    private void told() {
        e.sentence(4, "Of a LINE:");
        e.range("line", Edges::rich, (x, line) -> x.told(line, 0), 0, 0, 5, 5, Edges.BAD);
        e.range("line of forty", Edges::forty, (x, line) -> x.told(line, 4), 0, 1, 39, 6, Edges.BAD);
        e.sentence(4, "what 0 KIND, 1 FIGURE, 2 WEIGHT, 3 its lesser POINT, 4 its greater one.");
        e.range("what", Edges::rich, (x, what) -> x.told(4, what), 0, 4, 4, 5, Edges.BAD);
        e.takes("FIGURE", Edges::rich, x -> x.told(4, 1), 7);
        e.takes("WEIGHT", Edges::rich, x -> x.told(4, 2), 1);
        e.takes("lesser", Edges::rich, x -> x.told(4, 3), 4);
        PairedLines turned = new PairedLines();
        turned.points(12);
        turned.line(0, 1, 11, 0);
        e.due("lesser of 11 and 0", turned.told(0, 3), 0);
        e.due("greater of 11 and 0", turned.told(0, 4), 11);
        e.sentence(4, "BAD.");
        e.refuses("neither", Edges::rich, x -> x.told(6, 5), Edges.BAD);
        e.refuses("no LINES", PairedLines::new, x -> x.told(0, 0), Edges.BAD);
    }

    private void set() {
        e.sentence(5, "FIGURE becomes another one:");
        for (int figure : new int[] {0, 8, 9999}) {
            PairedLines x = Edges.rich();
            x.set(0, figure);
            e.due("FIGURE " + figure, x.told(0, 1), figure);
            e.due("KIND stays", x.told(0, 0), 0);
            e.due("COUNT 1", x.counts(0, 1), figure + 43);
        }
        e.sentence(5, "what it was.");
        e.takes("of LINE 0", Edges::rich, x -> x.set(0, 9999), 8);
        e.takes("of LINE 5", Edges::rich, x -> x.set(5, 0), 7);
        e.sentence(5, "BAD.");
        e.range("line", Edges::rich, (x, line) -> x.set(line, 3), 0, 8, 5, 7, Edges.BAD);
        e.range("figure", Edges::rich, (x, figure) -> x.set(0, figure), 0, 8, 9999, 8, Edges.BAD);
        e.refuses("neither", Edges::rich, x -> x.set(-1, -1), Edges.BAD);
        e.refuses("no LINES", PairedLines::new, x -> x.set(0, 0), Edges.BAD);
    }

    private void turns() {
        e.sentence(6, "A LINE is of another KIND:");
        int[] weights = {7, 14, 3, 18, 1, 7};
        for (int kind = 0; kind < 6; kind++) {
            PairedLines x = Edges.rich();
            x.turns(5, kind);
            e.due("KIND " + kind, x.told(5, 0), kind);
            e.due("FIGURE stays", x.told(5, 1), 7);
            e.due("WEIGHT", x.told(5, 2), weights[kind]);
            e.due("COUNT 1", x.counts(0, 1), 44 + weights[kind]);
        }
        e.sentence(6, "of which it was.");
        e.takes("of LINE 0", Edges::rich, x -> x.turns(0, 5), 0);
        e.takes("of LINE 5", Edges::rich, x -> x.turns(5, 0), 5);
        e.takes("of LINE 5, to the same", Edges::rich, x -> x.turns(5, 5), 5);
        e.sentence(6, "BAD.");
        e.range("line", Edges::rich, (x, line) -> x.turns(line, 3), 0, 0, 5, 5, Edges.BAD);
        e.range("kind", Edges::rich, (x, kind) -> x.turns(4, kind), 0, 4, 5, 4, Edges.BAD);
        e.refuses("neither", Edges::rich, x -> x.turns(6, 6), Edges.BAD);
        e.refuses("no LINES", PairedLines::new, x -> x.turns(0, 0), Edges.BAD);
    }

    private void drop() {
        e.sentence(7, "A LINE is no more,");
        PairedLines x = Edges.forty();
        x.drop(39);
        e.due("the last: its POINTS", x.between(4, 6), Edges.NONE);
        e.due("near one of them", x.near(6, 0), 1 | 2 | 4 | 8);
        e.due("COUNT 1", x.counts(0, 1), 39);
        e.due("as a set", x.isPairing(1L << 39), Edges.BAD);
        e.sentence(7, "those of greater numbers have one less:");
        x = Edges.rich();
        x.drop(0);
        for (int i = 0; i < 5; i++) {
            e.due("KIND of " + i, x.told(i, 0), i + 1);
            e.due("lesser POINT of " + i, x.told(i, 3), i + 1);
            e.due("between", x.between(i + 1, i + 2), i);
        }
        x.drop(2);
        e.due("that ahead of one that goes stays", x.told(1, 0), 2);
        e.due("that behind it moves", x.told(2, 0), 4);
        e.sentence(7, "how many there are.");
        x = Edges.rich();
        for (int left = 5; left >= 0; left--) {
            e.due("left", x.drop(left / 2), left);
        }
        e.due("no more", x.drop(0), Edges.BAD);
        e.takes("of forty", Edges::forty, y -> y.drop(0), 39);
        e.sentence(7, "BAD.");
        e.range("line", Edges::rich, (y, line) -> y.drop(line), 0, 5, 5, 5, Edges.BAD);
        e.range("line of forty", Edges::forty, (y, line) -> y.drop(line), 0, 39, 39, 39, Edges.BAD);
        e.refuses("no LINES", PairedLines::new, y -> y.drop(0), Edges.BAD);
    }

    private void tide() {
        e.sentence(8, "TIDE becomes v:");
        for (int v = 0; v <= 9; v++) {
            PairedLines x = Edges.rich();
            x.tide(v);
            e.due("TIDE", x.count(2), v);
            e.due("WEIGHT of PROP", x.told(3, 2), 14 + v);
        }
        e.sentence(8, "what it was.");
        PairedLines x = new PairedLines();
        e.due("0 at first", x.tide(9), 0);
        e.due("9", x.tide(9), 9);
        e.due("9 again", x.tide(0), 9);
        e.sentence(8, "BAD.");
        e.range("v", Edges::rich, (y, v) -> y.tide(v), 0, 4, 9, 4, Edges.BAD);
    }

    private void between() {
        e.sentence(9, "The LINE of two POINTS.");
        e.takes("0 and 1", Edges::rich, x -> x.between(0, 1), 0);
        e.takes("6 and 5", Edges::rich, x -> x.between(6, 5), 5);
        e.takes("the last of forty", Edges::forty, x -> x.between(6, 4), 39);
        e.sentence(9, "BAD: no such POINTS,");
        e.range("a", Edges::rich, (x, a) -> x.between(a, 2), 0, -1, 6, -1, Edges.BAD);
        e.range("b", Edges::rich, (x, b) -> x.between(2, b), 0, -1, 6, -1, Edges.BAD);
        e.refuses("neither", Edges::rich, x -> x.between(7, -1), Edges.BAD);
        e.refuses("no POINTS at all", PairedLines::new, x -> x.between(0, 1), Edges.BAD);
        e.sentence(9, "one and the same;");
        e.refuses("the first", Edges::rich, x -> x.between(0, 0), Edges.BAD);
        e.refuses("the last", Edges::rich, x -> x.between(6, 6), Edges.BAD);
        e.sentence(9, "NONE: they have none.");
        e.refuses("0 and 2", Edges::rich, x -> x.between(0, 2), Edges.NONE);
        e.refuses("6 and 0", Edges::rich, x -> x.between(6, 0), Edges.NONE);
        e.refuses("the first behind forty", Edges::forty, x -> x.between(4, 7), Edges.NONE);
    }

    private void near() {
        e.sentence(10, "POINTS that have a LINE with one and aren't OUT, as a set.");
        e.out("near", Edges::rich, (x, out) -> x.near(3, out), 20, 0, Edges.BAD);
        e.takes("one of them OUT", Edges::rich, x -> x.near(3, 4), 16);
        e.takes("the other one OUT", Edges::rich, x -> x.near(3, 16), 4);
        e.takes("itself OUT", Edges::rich, x -> x.near(3, 8), 20);
        e.takes("bits of no POINT", Edges::rich, x -> x.near(3, 4095 << 7 & 4095), 20);
        e.takes("eleven of them", Edges::forty, x -> x.near(0, 0), 4094);
        e.takes("the last of eleven OUT", Edges::forty, x -> x.near(0, 2048), 2046);
        e.sentence(10, "BAD.");
        e.range("point", Edges::rich, (x, point) -> x.near(point, 0), 0, 2, 6, 32, Edges.BAD);
        e.refuses("neither", Edges::rich, x -> x.near(7, 4096), Edges.BAD);
        e.refuses("no POINTS", PairedLines::new, x -> x.near(0, 0), Edges.BAD);
    }
}
