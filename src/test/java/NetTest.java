/** Promises 1 to 10: the net. */
public final class NetTest {
    private static final Check CHECK = new Check("NetTest");

    public static void main(String[] args) {
        promise1();
        promise2();
        promise3();
        promise4();
        promise5();
        promise6();
        promise7();
        promise8();
        promise9();
        promise10();
        CHECK.end();
    }

    private static void promise1() {
        PairedLines x = new PairedLines();
        CHECK.due("1 count(0)", x.count(0), 0);
        CHECK.due("1 count(1)", x.count(1), 0);
        CHECK.due("1 count(2)", x.count(2), 0);
        CHECK.due("1 count(3)", x.count(3), 0);
        CHECK.due("1 told(0, 0)", x.told(0, 0), -2);
        CHECK.due("1 near(0, 0)", x.near(0, 0), -2);
        for (int r = 0; r < 3; r++) {
            CHECK.due("1 of", x.of(r, 0), -11);
        }
        for (int s = 0; s < 4; s++) {
            CHECK.due("1 read", x.read(s, 0, 0), Check.NOTHING);
        }
        CHECK.due("1 back()", x.back(), -3);
    }

    private static void promise2() {
        PairedLines x = new PairedLines();
        CHECK.due("2 points(-1)", x.points(-1), -2);
        CHECK.due("2 points(13)", x.points(13), -2);
        CHECK.due("2 points(12)", x.points(12), 0);
        x.line(0, 1, 10, 11);
        x.tide(4);
        CHECK.due("2 points(13) again", x.points(13), -2);
        CHECK.due("2 refused: LINES stay", x.count(1), 1);
        CHECK.due("2 points(5)", x.points(5), 12);
        CHECK.due("2 POINTS", x.count(0), 5);
        CHECK.due("2 no LINES", x.count(1), 0);
        CHECK.due("2 TIDE stays", x.count(2), 4);
        CHECK.due("2 no NEAR ones", x.near(4, 0), 0);
        CHECK.due("2 points(0)", x.points(0), 5);
        CHECK.due("2 points(12) back", x.points(12), 0);
        CHECK.due("2 the LINE of before is none", x.between(10, 11), -1);
    }

    private static void promise3() {
        PairedLines x = new PairedLines();
        CHECK.due("3 no POINTS", x.line(0, 1, 0, 1), -2);
        x.points(12);
        CHECK.due("3 kind -1", x.line(-1, 1, 0, 1), -2);
        CHECK.due("3 kind 6", x.line(6, 1, 0, 1), -2);
        CHECK.due("3 figure -1", x.line(0, -1, 0, 1), -2);
        CHECK.due("3 figure 10000", x.line(0, 10000, 0, 1), -2);
        CHECK.due("3 a -1", x.line(0, 1, -1, 1), -2);
        CHECK.due("3 b -1", x.line(0, 1, 1, -1), -2);
        CHECK.due("3 a 12", x.line(0, 1, 12, 1), -2);
        CHECK.due("3 b 12", x.line(0, 1, 1, 12), -2);
        CHECK.due("3 one and the same", x.line(0, 1, 3, 3), -2);
        CHECK.due("3 none came", x.count(1), 0);
        CHECK.due("3 first", x.line(5, 9999, 11, 0), 0);
        CHECK.due("3 have one", x.line(0, 1, 0, 11), -3);
        CHECK.due("3 have one, turned", x.line(0, 1, 11, 0), -3);
        CHECK.due("3 have one, but BAD", x.line(6, 1, 11, 0), -2);
        CHECK.due("3 figure 0", x.line(0, 0, 0, 1), 1);
        int next = 2;
        for (int a = 1; a < 12 && next < 40; a++) {
            for (int b = a + 1; b < 12 && next < 40; b++) {
                CHECK.due("3 line", x.line(2, 3, a, b), next);
                next++;
            }
        }
        CHECK.due("3 FULL", x.line(0, 1, 10, 11), -4);
        CHECK.due("3 STATE ahead of FULL", x.line(0, 1, 0, 11), -3);
        CHECK.due("3 BAD ahead of FULL", x.line(0, 1, 12, 11), -2);
        CHECK.due("3 forty", x.count(1), 40);
    }

    private static void promise4() {
        PairedLines x = new PairedLines();
        x.points(6);
        for (int kind = 0; kind < 6; kind++) {
            x.line(kind, 7, (kind + 1) % 6, kind);
        }
        int[][] weights = {
            {7, 14, 7, 14, 3, 7}, {7, 14, 6, 15, 3, 1}, {7, 14, 5, 16, 2, 7}, {7, 14, 4, 17, 2, 1}, {7, 14, 3, 18, 1, 7},
            {7, 14, 2, 19, 1, 1}, {7, 14, 1, 20, 0, 7}, {7, 14, 0, 21, 0, 1}, {7, 14, 0, 22, 0, 7}, {7, 14, 0, 23, 0, 1}};
        for (int tide = 0; tide < 10; tide++) {
            x.tide(tide);
            for (int kind = 0; kind < 6; kind++) {
                CHECK.due("4 WEIGHT of " + kind + " at " + tide, x.told(kind, 2), weights[tide][kind]);
            }
        }
        CHECK.due("4 KIND", x.told(4, 0), 4);
        CHECK.due("4 FIGURE", x.told(4, 1), 7);
        CHECK.due("4 lesser", x.told(5, 3), 0);
        CHECK.due("4 greater", x.told(5, 4), 5);
        CHECK.due("4 what -1", x.told(0, -1), -2);
        CHECK.due("4 what 5", x.told(0, 5), -2);
        CHECK.due("4 line -1", x.told(-1, 0), -2);
        CHECK.due("4 line 6", x.told(6, 0), -2);
    }

    private static void promise5() {
        PairedLines x = Check.path(3);
        CHECK.due("5 set", x.set(1, 9999), 2);
        CHECK.due("5 it is", x.told(1, 1), 9999);
        CHECK.due("5 the other is as it was", x.told(0, 1), 1);
        CHECK.due("5 counts follow", x.counts(0, 1), 10000);
        CHECK.due("5 to 0", x.set(1, 0), 9999);
        CHECK.due("5 counts follow again", x.counts(0, 1), 1);
        CHECK.due("5 figure -1", x.set(1, -1), -2);
        CHECK.due("5 figure 10000", x.set(1, 10000), -2);
        CHECK.due("5 line 2", x.set(2, 1), -2);
        CHECK.due("5 line -1", x.set(-1, 1), -2);
        CHECK.due("5 refused: it stays", x.told(1, 1), 0);
    }

    private static void promise6() {
        PairedLines x = Check.path(3);
        CHECK.due("6 counts", x.counts(0, 1), 3);
        CHECK.due("6 turns", x.turns(1, 3), 0);
        CHECK.due("6 it is", x.told(1, 0), 3);
        CHECK.due("6 FIGURE stays", x.told(1, 1), 2);
        CHECK.due("6 counts follow", x.counts(0, 1), 5);
        CHECK.due("6 to 0 and on", x.turns(1, 0), 3);
        CHECK.due("6 turns again", x.turns(1, 5), 0);
        CHECK.due("6 kind 6", x.turns(1, 6), -2);
        CHECK.due("6 kind -1", x.turns(1, -1), -2);
        CHECK.due("6 line 2", x.turns(2, 1), -2);
        CHECK.due("6 line -1", x.turns(-1, 1), -2);
        CHECK.due("6 refused: it stays", x.told(1, 0), 5);
    }

    private static void promise7() {
        PairedLines x = Check.path(5);
        CHECK.due("7 line 4", x.drop(4), -2);
        CHECK.due("7 line -1", x.drop(-1), -2);
        CHECK.due("7 counts", x.counts(0, 1), 10);
        x.turns(2, 2);
        x.turns(3, 3);
        CHECK.due("7 drop", x.drop(1), 3);
        CHECK.due("7 KINDS move", x.told(1, 0), 2);
        CHECK.due("7 KINDS move", x.told(2, 0), 3);
        x.turns(1, 0);
        x.turns(2, 0);
        CHECK.due("7 counts follow", x.counts(0, 1), 8);
        CHECK.due("7 those behind move", x.told(1, 1), 3);
        CHECK.due("7 with their POINTS", x.told(1, 3), 2);
        CHECK.due("7 between", x.between(1, 2), -1);
        CHECK.due("7 between of one that moved", x.between(4, 3), 2);
        CHECK.due("7 near", x.near(1, 0), 1);
        CHECK.due("7 it can come again", x.line(0, 6, 2, 1), 3);
        CHECK.due("7 drop the last", x.drop(3), 3);
        CHECK.due("7 drop", x.drop(0), 2);
        CHECK.due("7 drop", x.drop(0), 1);
        CHECK.due("7 drop", x.drop(0), 0);
        CHECK.due("7 none is left", x.drop(0), -2);
    }

    private static void promise8() {
        PairedLines x = new PairedLines();
        x.points(2);
        x.line(3, 5, 0, 1);
        CHECK.due("8 -1", x.tide(-1), -2);
        CHECK.due("8 10", x.tide(10), -2);
        CHECK.due("8 counts", x.counts(0, 1), 10);
        CHECK.due("8 9", x.tide(9), 0);
        CHECK.due("8 counts follow", x.counts(0, 1), 19);
        CHECK.due("8 0", x.tide(0), 9);
        CHECK.due("8 it is", x.count(2), 0);
    }

    private static void promise9() {
        PairedLines x = Check.path(4);
        CHECK.due("9 between", x.between(2, 3), 2);
        CHECK.due("9 turned", x.between(3, 2), 2);
        CHECK.due("9 none", x.between(0, 2), -1);
        CHECK.due("9 one and the same", x.between(1, 1), -2);
        CHECK.due("9 a 4", x.between(4, 1), -2);
        CHECK.due("9 b 4", x.between(1, 4), -2);
        CHECK.due("9 a -1", x.between(-1, 1), -2);
        CHECK.due("9 b -1", x.between(1, -1), -2);
    }

    private static void promise10() {
        PairedLines x = Check.path(4);
        CHECK.due("10 near", x.near(1, 0), 5);
        CHECK.due("10 less one that is OUT", x.near(1, 4), 1);
        CHECK.due("10 bits of no POINT", x.near(1, 4080), 5);
        CHECK.due("10 all OUT", x.near(1, 4095), 0);
        CHECK.due("10 itself OUT", x.near(1, 2), 5);
        CHECK.due("10 point 4", x.near(4, 0), -2);
        CHECK.due("10 point -1", x.near(-1, 0), -2);
        CHECK.due("10 out -1", x.near(1, -1), -2);
        CHECK.due("10 out 4096", x.near(1, 4096), -2);
    }
}
