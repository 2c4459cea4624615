/** Promises 31 to 33. */
final class RacksEdges {
    private final Edges e;

    RacksEdges(Edges e) {
        this.e = e;
    }

    void all() {
        rack();
        lay();
        of();
    }

    private void rack() {
        e.sentence(31, "A RACK becomes a row of n (at most 20) places for LINES of a KIND (or under it), all empty,");
        for (int n : new int[] {0, 1, 19, 20}) {
            PairedLines x = Edges.rich();
            e.due("rack(0, 0, " + n + ")", x.rack(0, 0, n), 1);
            for (int i = 0; i < n; i++) {
                e.due("empty at " + i, x.of(0, i), Edges.STATE);
            }
            e.due("behind the last place", x.of(0, n), Edges.PLACE);
            e.due("laid behind the last place", x.lay(0, n, 0), Edges.PLACE);
            e.due("laid at the last place", x.lay(0, n - 1, 0), n == 0 ? Edges.PLACE : 0);
        }
        PairedLines x = Edges.rich();
        e.due("of another KIND", x.rack(0, 5, 3), 1);
        e.due("what lay there is no more", x.of(0, 1), Edges.STATE);
        e.due("its KIND", x.lay(0, 1, 5), 5);
        e.due("not the KIND of before", x.lay(0, 1, 0), Edges.KIND);
        e.due("anew, as it was", x.rack(0, 5, 3), 1);
        e.due("empty again", x.of(0, 1), Edges.STATE);
        e.due("fewer places", x.rack(0, 5, 1), 1);
        e.due("no place any more", x.of(0, 1), Edges.PLACE);
        e.sentence(31, "or missing (kind -1; n does not matter): 1.");
        for (int n : new int[] {0, 20, 21, -1, Integer.MAX_VALUE, Integer.MIN_VALUE}) {
            PairedLines y = Edges.rich();
            e.due("rack(0, -1, " + n + ")", y.rack(0, -1, n), 1);
            e.due("missing", y.of(0, 1), Edges.NOTHING);
            e.due("missing, laid", y.lay(0, 1, 0), Edges.NOTHING);
            e.due("missing again", y.rack(0, -1, n), 1);
            e.due("the other one isn't", y.of(1, 0), Edges.STATE);
        }
        e.sentence(31, "BAD: r, kind, n above 20;");
        e.range("r", Edges::rich, (y, r) -> y.rack(r, 0, 3), 0, 1, 2, 1, Edges.BAD);
        e.range("kind", Edges::rich, (y, kind) -> y.rack(0, kind, 3), -1, 1, 5, 1, Edges.BAD);
        e.takes("n 20", Edges::rich, y -> y.rack(1, 0, 20), 1);
        e.refuses("n 21", Edges::rich, y -> y.rack(1, 0, 21), Edges.BAD);
        e.refuses("n far above", Edges::rich, y -> y.rack(1, 0, Integer.MAX_VALUE), Edges.BAD);
        e.refuses("n 21 of a missing one", Edges::rich, y -> y.rack(2, 0, 21), Edges.BAD);
        e.refuses("r, to be missing", Edges::rich, y -> y.rack(3, -1, 0), Edges.BAD);
        e.refuses("ahead of SIZE: r", Edges::rich, y -> y.rack(-1, 0, -1), Edges.BAD);
        e.refuses("ahead of SIZE: kind", Edges::rich, y -> y.rack(0, 6, -1), Edges.BAD);
        e.refuses("ahead of SIZE: kind below -1", Edges::rich, y -> y.rack(0, -2, -1), Edges.BAD);
        e.sentence(31, "SIZE: n below 0.");
        e.takes("n 0", Edges::rich, y -> y.rack(0, 0, 0), 1);
        e.refuses("n -1", Edges::rich, y -> y.rack(0, 0, -1), Edges.SIZE);
        e.refuses("n far below", Edges::rich, y -> y.rack(0, 5, Integer.MIN_VALUE), Edges.SIZE);
        e.refuses("n -1 of a missing one", Edges::rich, y -> y.rack(2, 0, -1), Edges.SIZE);
    }

    private void lay() {
        e.sentence(32, "A LINE, as it is now, for good, comes to place i of a RACK: its KIND.");
        for (int kind = 0; kind < 6; kind++) {
            PairedLines x = Edges.rich();
            e.due("KIND " + kind, x.lay(0, 0, kind), kind);
            long weight = x.told(kind, 2);
            e.due("it lies there", x.of(0, 0), weight);
            x.set(kind, 9999);
            e.due("FIGURE of then", x.of(0, 0), weight);
            x.turns(kind, (kind + 1) % 6);
            e.due("KIND of then", x.of(0, 0), weight);
            x.drop(kind);
            e.due("though the LINE is no more", x.of(0, 0), weight);
            x.points(0);
            e.due("nor a POINT", x.of(0, 0), weight);
            e.due("the other places stay", x.of(0, 1), 18);
        }
        e.takes("over another one", Edges::rich, x -> x.lay(0, 1, 5), 5);
        e.takes("the last LINE of forty", RacksEdges::fortyAndRack, x -> x.lay(2, 19, 39), 0);
        e.sentence(32, "BAD: r, line;");
        e.range("r", RacksEdges::allRacks, (x, r) -> x.lay(r, 0, 5), 0, 5, 2, 5, Edges.BAD);
        e.range("line", Edges::rich, (x, line) -> x.lay(0, 0, line), 0, 0, 5, 5, Edges.BAD);
        e.range("line of forty", RacksEdges::fortyAndRack, (x, line) -> x.lay(2, 0, line), 0, 0, 39, 0, Edges.BAD);
        e.refuses("ahead of NOTHING", Edges::rich, x -> x.lay(2, 0, 6), Edges.BAD);
        e.refuses("ahead of PLACE", Edges::rich, x -> x.lay(0, 3, 6), Edges.BAD);
        e.refuses("no LINES", PairedLines::new, x -> x.lay(0, 0, 0), Edges.BAD);
        e.sentence(32, "NOTHING: the RACK is missing;");
        e.refuses("at first", Edges::rich, x -> x.lay(2, 0, 0), Edges.NOTHING);
        e.refuses("ahead of PLACE", Edges::rich, x -> x.lay(2, -1, 0), Edges.NOTHING);
        e.sentence(32, "PLACE;");
        e.range("i", Edges::rich, (x, i) -> x.lay(0, i, 2), 0, 2, 2, 2, Edges.PLACE);
        e.range("i of twenty", RacksEdges::fortyAndRack, (x, i) -> x.lay(2, i, 39), 0, 0, 19, 0, Edges.PLACE);
        e.refuses("ahead of KIND", Edges::rich, x -> x.lay(1, 2, 0), Edges.PLACE);
        e.sentence(32, "KIND: it is of none such.");
        boolean[][] under = {
            {true, true, true, true, true, true}, {false, true, false, true, false, false}, {false, false, true, false, true, false},
            {false, false, false, true, false, false}, {false, false, false, false, true, false}, {false, false, false, false, false, true}};
        for (int t = 0; t < 6; t++) {
            int top = t;
            for (int k = 0; k < 6; k++) {
                int kind = k;
                if (under[top][kind]) {
                    e.takes(kind + " under " + top, () -> rackOf(top), x -> x.lay(2, 1, kind), kind);
                } else {
                    e.refuses(kind + " isn't under " + top, () -> rackOf(top), x -> x.lay(2, 1, kind), Edges.KIND);
                }
            }
        }
    }

    private static PairedLines allRacks() {
        PairedLines x = Edges.rich();
        x.rack(1, 0, 1);
        x.rack(2, 5, 1);
        return x;
    }

    private static PairedLines fortyAndRack() {
        PairedLines x = Edges.forty();
        x.rack(2, 0, 20);
        return x;
    }

    /** RACK 2 for a KIND; at place 1 lies a LINE that is of just this KIND. */
    private static PairedLines rackOf(int kind) {
        PairedLines x = Edges.rich();
        x.rack(2, kind, 2);
        x.lay(2, 1, kind);
        return x;
    }

    private void of() {
        e.sentence(33, "WEIGHT, by the TIDE of now, of what lies at place i of a RACK.");
        int[][] weights = {{7, 14, 7, 14, 3, 7}, {7, 14, 1, 20, 0, 7}, {7, 14, 0, 21, 0, 1}, {7, 14, 0, 23, 0, 1}};
        int[] tides = {0, 6, 7, 9};
        PairedLines x = Edges.rich();
        x.rack(2, 0, 20);
        x.set(0, 7);
        for (int kind = 0; kind < 6; kind++) {
            x.lay(2, 14 + kind, kind);
        }
        for (int t = 0; t < 4; t++) {
            x.tide(tides[t]);
            for (int kind = 0; kind < 6; kind++) {
                e.due("KIND " + kind + " by TIDE " + tides[t], x.of(2, 14 + kind), weights[t][kind]);
            }
        }
        e.sentence(33, "BAD: r;");
        e.range("r", RacksEdges::allRacks, (y, r) -> y.of(r, 0), 0, Edges.STATE, 2, Edges.STATE, Edges.BAD);
        e.refuses("ahead of PLACE", Edges::rich, y -> y.of(3, 99), Edges.BAD);
        e.sentence(33, "NOTHING: the RACK is missing;");
        e.refuses("at first", PairedLines::new, y -> y.of(0, 0), Edges.NOTHING);
        e.refuses("RACK 2", Edges::rich, y -> y.of(2, 0), Edges.NOTHING);
        e.refuses("ahead of PLACE", Edges::rich, y -> y.of(2, -1), Edges.NOTHING);
        e.sentence(33, "PLACE;");
        e.range("i", Edges::rich, (y, i) -> y.of(0, i), 0, Edges.STATE, 2, Edges.STATE, Edges.PLACE);
        e.range("i of twenty", RacksEdges::fortyAndRack, (y, i) -> y.of(2, i), 0, Edges.STATE, 19, Edges.STATE, Edges.PLACE);
        e.sentence(33, "STATE: the place is empty.");
        e.refuses("ahead of what lies there", Edges::rich, y -> y.of(0, 0), Edges.STATE);
        e.refuses("behind it", Edges::rich, y -> y.of(0, 2), Edges.STATE);
        e.takes("what lies there", Edges::rich, y -> y.of(0, 1), 18);
    }
}
