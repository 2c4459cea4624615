import java.util.Random;

/** Promises 1 to 44: runs of calls by lot, whose answers are due by the model. */
public final class ModelTest {
    private static final Check CHECK = new Check("ModelTest");
    private static final int RUNS = 400;
    private static final int CALLS = 512;

    private final Random random;
    private final PairedLines x = new PairedLines();
    private final Model y = new Model();
    private final int run;
    private final int most;
    private final int heaviest;
    private final int[] asked;

    private ModelTest(int run, int[] asked) {
        this.run = run;
        this.random = new Random(20261118L * 31 + run);
        this.most = run % 3 == 0 ? 12 : 3 + run % 8;
        this.heaviest = new int[] {3, 30, 1000, 9999}[run / 3 % 4];
        this.asked = asked;
    }

    public static void main(String[] args) {
        int[] asked = new int[44];
        for (int run = 0; run < RUNS; run++) {
            new ModelTest(run, asked).go();
            new ModelTest(run, asked).goByRows();
        }
        for (int call = 0; call < 43; call++) {
            CHECK.holds("each call is asked: " + call, asked[call] > 50);
        }
        CHECK.end();
    }

    private void go() {
        points(most);
        // all pairings of a large net that is dense take the model long, so that few are
        int tries = run % 30 == 0 ? 100 : up(most, 3 * most);
        for (int i = 0; i < tries; i++) {
            line();
        }
        for (int i = 0; i < CALLS - 120; i++) {
            ask(random.nextInt(100));
        }
    }

    /** Short SHEETS, so that what one call made is what the next ones take. */
    private void goByRows() {
        points(4);
        for (int s = 0; s < 4; s++) {
            int sort = run % 2 == 0 ? s : 2 + s % 2;
            due(32, "sheet", x.sheet(s, sort, 3), y.sheet(s, sort, 3));
        }
        for (int i = 0; i < 40; i++) {
            askRow(random.nextInt(8), random.nextInt(4), random.nextInt(3));
        }
    }

    private void askRow(int way, int s, int i) {
        int t = random.nextInt(4);
        int j = random.nextInt(3);
        int n = random.nextInt(4);
        int m = up(1, 99);
        long v = number();
        switch (way) {
            case 0, 1 -> due(33, "cell", x.cell(s, i, v), y.cell(s, i, v));
            case 2, 3 -> {
                int times = random.nextInt(5) == 0 ? 30 : up(1, 4);
                for (int k = 0; k < times; k++) {
                    due(35, "parts", x.parts(s, i, m), y.parts(s, i, m));
                }
            }
            case 4, 5 -> due(38, "copy", x.copy(s, i, t, j, n), y.copy(s, i, t, j, n));
            case 6 -> due(36, "writes", x.writes(s, 15 >> n), y.writes(s, 15 >> n));
            default -> {
                if (random.nextInt(6) == 0) {
                    due(32, "sheet", x.sheet(s, t, 3), y.sheet(s, t, 3));
                }
            }
        }
        for (int how = 0; how < 5; how++) {
            due(34, "read", x.read(s, i, how), y.read(s, i, how));
        }
    }

    private int up(int least, int most) {
        return least + random.nextInt(most - least + 1);
    }

    /** A number of a range, now and then one just beyond or far off. */
    private int near(int least, int most) {
        int way = random.nextInt(60);
        if (way == 0) {
            return least - 1;
        }
        if (way == 1) {
            return most + 1;
        }
        if (way == 2) {
            return random.nextInt();
        }
        return most < least ? least : up(least, most);
    }

    private int out() {
        int way = random.nextInt(4);
        return way == 0 ? 0 : way == 1 ? 1 << random.nextInt(12) : way == 2 ? random.nextInt(4096) & random.nextInt(4096) : near(0, 4095);
    }

    private int point() {
        return near(0, y.count(0) - 1);
    }

    private int aLine() {
        return near(0, y.count(1) - 1);
    }

    private int figure() {
        return random.nextInt(30) == 0 ? near(0, 9999) : up(0, heaviest);
    }

    private long set() {
        long set = y.lot(random.nextInt(), 6);
        int way = random.nextInt(6);
        return way == 0 ? set | 1L << random.nextInt(64) : way == 1 ? set | 1L << up(0, Math.max(0, y.count(1) - 1)) : set;
    }

    private long number() {
        int way = random.nextInt(5);
        return way == 0 ? random.nextLong() : way == 1 ? random.nextInt() : way == 2 ? random.nextLong() >> random.nextInt(64) : up(-3, 12);
    }

    private void due(int call, String name, long got, long want) {
        asked[call]++;
        CHECK.due("run " + run + " " + name, got, want);
    }

    private void points(int n) {
        due(0, "points", x.points(n), y.points(n));
    }

    private void line() {
        int kind = near(0, 5);
        int figure = figure();
        int a = point();
        int b = point();
        due(1, "line", x.line(kind, figure, a, b), y.line(kind, figure, a, b));
    }

    private void ask(int call) {
        if (call < 9) {
            askNet(call);
        } else if (call < 18) {
            askCounts(call);
        } else if (call < 29) {
            askWays(call);
        } else if (call < 32) {
            askRacks(call);
        } else if (call < 43) {
            askSheets(call);
        } else if (call < 50) {
            line();
        } else if (call < 60) {
            askCounts(up(9, 17));
        } else if (call < 70) {
            askWays(up(18, 28));
        } else if (call < 80) {
            askRacks(up(30, 31));
        } else {
            askSheets(up(32, 42));
        }
    }

    private void askNet(int call) {
        int l = aLine();
        int a = point();
        int b = point();
        int out = out();
        int v = near(0, 9);
        int k = near(0, 5);
        int f = figure();
        switch (call) {
            case 0 -> {
                if (random.nextInt(12) == 0) {
                    points(near(0, most));
                }
            }
            case 1 -> line();
            case 2 -> due(2, "told", x.told(l, k), y.told(l, k));
            case 3 -> due(3, "set", x.set(l, f), y.set(l, f));
            case 4 -> due(4, "turns", x.turns(l, k), y.turns(l, k));
            case 5 -> due(5, "drop", x.drop(l), y.drop(l));
            case 6 -> due(6, "tide", x.tide(v), y.tide(v));
            case 7 -> due(7, "between", x.between(a, b), y.between(a, b));
            default -> due(8, "near", x.near(a, out), y.near(a, out));
        }
    }

    private void askCounts(int call) {
        int out = out();
        int rate = near(0, random.nextBoolean() ? 2 : 9);
        int part = near(0, 1);
        int k = near(0, 6);
        switch (call) {
            case 9 -> due(9, "counts", x.counts(out, k), y.counts(out, k));
            case 10 -> due(10, "coef", x.coef(out, 2 * k - part), y.coef(out, 2 * k - part));
            case 11 -> due(11, "sum", x.sum(out, rate), y.sum(out, rate));
            case 12 -> due(12, "likely", x.likely(out, rate), y.likely(out, rate));
            case 13 -> due(13, "mean", x.mean(out, rate, part), y.mean(out, rate, part));
            case 14 -> due(14, "spread", x.spread(out, rate, part), y.spread(out, rate, part));
            case 15 -> due(15, "meanAs", x.meanAs(out, rate, k), y.meanAs(out, rate, k));
            case 16 -> due(16, "most", x.most(out), y.most(out));
            default -> {
                if (most < 12 || random.nextInt(10) == 0) {
                    due(17, "other", x.other(k), y.other(k));
                }
            }
        }
    }

    private void askWays(int call) {
        int out = out();
        int rate = near(0, random.nextBoolean() ? 2 : 9);
        int part = near(0, 1);
        int point = point();
        int node = near(0, y.count(3) - 1);
        int depth = near(0, 5);
        int what = near(0, 3);
        int p = near(-60, 60);
        int p2 = near(-60, 60);
        int q = near(1, 6);
        long set = set();
        int size = near(0, 6);
        int place = random.nextInt(3) == 0 ? -1 : near(0, Math.max(0, (int) y.listed(Math.max(0, Math.min(6, size)), -1)));
        int seed = random.nextInt();
        int odds = near(0, 10);
        switch (call) {
            case 18 -> due(18, "alone", x.alone(point, out, rate, part), y.alone(point, out, rate, part));
            case 19 -> due(19, "tree", x.tree(point, out), y.tree(point, out));
            case 20 -> due(20, "node", x.node(node, what), y.node(node, what));
            case 21 -> due(21, "share", x.share(node, rate, part), y.share(node, rate, part));
            case 22 -> due(22, "cutOff", x.cutOff(point, out, rate, depth), y.cutOff(point, out, rate, depth));
            case 23 -> due(23, "sign", x.sign(out, p, q), y.sign(out, p, q));
            case 24 -> due(24, "changes", x.changes(out, q, p, p2), y.changes(out, q, p, p2));
            case 25 -> due(25, "isPairing", x.isPairing(set), y.isPairing(set));
            case 26 -> due(26, "worth", x.worth(set), y.worth(set));
            case 27 -> due(27, "listed", x.listed(size, place), y.listed(size, place));
            default -> due(28, "lot", x.lot(seed, odds), y.lot(seed, odds));
        }
    }

    private void askRacks(int call) {
        int r = near(0, 2);
        int kind = random.nextInt(2) == 0 ? 0 : near(-1, 5);
        int n = random.nextInt(20) == 0 ? near(0, 20) : up(3, 20);
        int i = near(0, 6);
        int l = aLine();
        switch (call) {
            case 29 -> due(29, "rack", x.rack(r, kind, n), y.rack(r, kind, n));
            case 30 -> due(30, "lay", x.lay(r, i, l), y.lay(r, i, l));
            default -> due(31, "of", x.of(r, i), y.of(r, i));
        }
    }

    private void askSheets(int call) {
        int s = near(0, 3);
        int t = near(0, 3);
        int sort = random.nextInt(2) == 0 ? s : near(-1, 3);
        int i = near(0, 20);
        int j = near(0, 20);
        int n = random.nextInt(3) == 0 ? near(0, 60) : up(5, 30);
        long v = number();
        int how = near(0, 4);
        int m = near(1, 99);
        int out = out();
        int few = near(0, 10);
        switch (call) {
            case 32 -> due(32, "sheet", x.sheet(s, sort, n), y.sheet(s, sort, n));
            case 33 -> due(33, "cell", x.cell(s, i, v), y.cell(s, i, v));
            case 34 -> due(34, "read", x.read(s, i, how), y.read(s, i, how));
            case 35 -> due(35, "parts", x.parts(s, i, m), y.parts(s, i, m));
            case 36 -> due(36, "writes", x.writes(s, out), y.writes(s, out));
            case 37 -> askSame(s, out);
            case 38 -> due(38, "copy", x.copy(s, i, t, j, few), y.copy(s, i, t, j, few));
            case 39 -> askBuild(near(0, 3), i, near(0, 15));
            case 40 -> due(40, "image", x.image(), y.image());
            case 41 -> {
                if (random.nextInt(4) == 0) {
                    due(41, "back", x.back(), y.back());
                }
            }
            default -> due(42, "count", x.count(how), y.count(how));
        }
    }

    /** Now and then a SHEET that has the COUNTS, but for one at times. */
    private void askSame(int s, int out) {
        if (random.nextInt(3) == 0) {
            int n = up(0, 9);
            due(32, "sheet", x.sheet(s, s, n), y.sheet(s, s, n));
            for (int k = 0; k < n; k++) {
                long v = k > 6 ? 0 : y.counts(out, k);
                due(33, "cell", x.cell(s, k, v), y.cell(s, k, v));
            }
        }
        due(37, "same", x.same(s, out), y.same(s, out));
    }

    private void askBuild(int s, int from, int n) {
        if (random.nextInt(3) == 0) {
            due(32, "sheet", x.sheet(0, 0, 60), y.sheet(0, 0, 60));
            for (int i = 0; i < 24; i++) {
                long v = i % 4 == 0 ? near(0, 5) : i % 4 == 1 ? figure() : point();
                due(33, "cell", x.cell(0, i, v), y.cell(0, i, v));
            }
            int at = 4 * up(0, 3);
            due(39, "build", x.build(0, at, 3), y.build(0, at, 3));
        }
        due(39, "build", x.build(s, from, n), y.build(s, from, n));
    }
}
