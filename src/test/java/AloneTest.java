/** Promises 20 to 24: alone. */
public final class AloneTest {
    private static final Check CHECK = new Check("AloneTest");

    public static void main(String[] args) {
        promise20();
        promise21();
        promise22();
        promise23();
        promise24();
        CHECK.end();
    }

    private static void promise20() {
        PairedLines x = Check.path(3);
        // SUM 1 + 1 + 2; without POINT 0: 1 + 2
        CHECK.due("20 above", x.alone(0, 0, 1, 0), 3);
        CHECK.due("20 below", x.alone(0, 0, 1, 1), 4);
        CHECK.due("20 middle above", x.alone(1, 0, 1, 0), 1);
        CHECK.due("20 middle below", x.alone(1, 0, 1, 1), 4);
        CHECK.due("20 lowest terms above", x.alone(2, 0, 1, 0), 1);
        CHECK.due("20 lowest terms below", x.alone(2, 0, 1, 1), 2);
        CHECK.due("20 rate 0", x.alone(2, 0, 0, 1), 1);
        CHECK.due("20 rate 9 below", x.alone(0, 0, 9, 1), 28);
        CHECK.due("20 with OUT", x.alone(1, 1, 1, 1), 3);
        CHECK.due("20 a POINT that is OUT", x.alone(1, 2, 1, 1), Check.BAD);
        CHECK.due("20 point 3", x.alone(3, 0, 1, 0), Check.BAD);
        CHECK.due("20 point -1", x.alone(-1, 0, 1, 0), Check.BAD);
        CHECK.due("20 out -1", x.alone(0, -1, 1, 0), Check.BAD);
        CHECK.due("20 out 4096", x.alone(0, 4096, 1, 0), Check.BAD);
        CHECK.due("20 rate -1", x.alone(0, 0, -1, 0), Check.BAD);
        CHECK.due("20 rate 10", x.alone(0, 0, 10, 0), Check.BAD);
        CHECK.due("20 part -1", x.alone(0, 0, 1, -1), Check.BAD);
        CHECK.due("20 part 2", x.alone(0, 0, 1, 2), Check.BAD);
        PairedLines six = Check.apart(6, 0, 1000);
        CHECK.due("20 within", six.alone(0, 0, 1, 1), 1001);
        CHECK.due("20 MUCH", six.alone(0, 0, 2, 1), Check.MUCH);
        CHECK.due("20 BAD ahead of MUCH", six.alone(0, 1, 2, 1), Check.BAD);
    }

    private static void promise21() {
        PairedLines x = Check.path(4);
        CHECK.due("21 tree", x.tree(1, 0), 4);
        CHECK.due("21 with OUT", x.tree(1, 4), 2);
        CHECK.due("21 a POINT that is OUT", x.tree(1, 2), -2);
        CHECK.due("21 point 4", x.tree(4, 0), -2);
        CHECK.due("21 point -1", x.tree(-1, 0), -2);
        CHECK.due("21 out 4096", x.tree(1, 4096), -2);
        CHECK.due("21 out -1", x.tree(1, -1), -2);
        CHECK.due("21 refused: it stays", x.count(3), 2);
        // whole nets have 1 + (n - 1) (1 + (n - 2) (..)) NODES
        CHECK.due("21 whole of 5", Check.whole(5, 0, 1).tree(0, 0), 65);
        PairedLines six = Check.whole(6, 0, 1);
        CHECK.due("21 whole of 6: 326 are too many", six.tree(0, 0), -5);
        CHECK.due("21 no TREE yet", six.count(3), 0);
        CHECK.due("21 with one OUT", six.tree(3, 1), 65);
        CHECK.due("21 MUCH", six.tree(3, 0), -5);
        CHECK.due("21 MUCH: THE TREE stays", six.count(3), 65);
        CHECK.due("21 MUCH: its NODES too", six.node(64, 0), 1);
        edgeOfRoom();
    }

    /** Six POINTS with all LINES but two have 185 ways from POINT 0, 38 of which end at POINT 2; one that hangs from a POINT is come to by each way that ends there. */
    private static void edgeOfRoom() {
        PairedLines x = new PairedLines();
        x.points(12);
        for (int a = 0; a < 6; a++) {
            for (int b = a + 1; b < 6; b++) {
                if (!(a == 0 && b == 1) && !(a == 2 && b == 3)) {
                    x.line(0, 1, a, b);
                }
            }
        }
        CHECK.due("21 all LINES but two", x.tree(0, 0), 185);
        for (int v = 6; v < 9; v++) {
            x.line(0, 1, 2, v);
        }
        CHECK.due("21 299", x.tree(0, 0), 299);
        x.line(0, 1, 0, 9);
        CHECK.due("21 300 are not too many", x.tree(0, 0), 300);
        CHECK.due("21 the last one", x.node(299, 0), 9);
        CHECK.due("21 none behind it", x.node(300, 0), -12);
        CHECK.due("21 SHARE of it", x.share(299, 1, 1), 1);
        x.line(0, 1, 0, 10);
        CHECK.due("21 301 are", x.tree(0, 0), -5);
        CHECK.due("21 THE TREE stays", x.node(299, 0), 9);
    }

    private static void promise22() {
        PairedLines x = new PairedLines();
        CHECK.due("22 no TREE", x.node(0, 0), -12);
        CHECK.due("22 no TREE, ahead of BAD", x.node(0, 9), -12);
        x.points(5);
        x.line(0, 1, 2, 4);
        x.line(0, 1, 2, 0);
        x.line(0, 1, 4, 0);
        x.line(0, 1, 0, 1);
        x.tree(2, 0);
        int[][] due = {{2, -1, 2, 0}, {0, 0, 2, 1}, {1, 1, 0, 2}, {4, 1, 0, 2}, {4, 0, 1, 1}, {0, 4, 1, 2}, {1, 5, 0, 3}};
        CHECK.due("22 NODES", x.count(3), due.length);
        for (int k = 0; k < due.length; k++) {
            for (int what = 0; what < 4; what++) {
                CHECK.due("22 node(" + k + ", " + what + ")", x.node(k, what), due[k][what]);
            }
        }
        CHECK.due("22 k -1", x.node(-1, 0), -12);
        CHECK.due("22 k 7", x.node(7, 0), -12);
        CHECK.due("22 what -1", x.node(0, -1), -2);
        CHECK.due("22 what 4", x.node(6, 4), -2);
        x.points(0);
        CHECK.due("22 THE TREE stays as the net goes", x.node(6, 3), 3);
    }

    private static void promise23() {
        PairedLines x = new PairedLines();
        CHECK.due("23 no TREE", x.share(0, 99, 99), Check.PLACE);
        x.points(4);
        x.line(0, 2, 0, 1);
        x.line(0, 3, 1, 2);
        x.tree(0, 0);
        // behind NODE 1 SHARE of NODE 2 is 1: S is 1 + 3, its SHARE 1 of 4, and that of NODE 0 1 of 1 + 2 of 4
        CHECK.due("23 last above", x.share(2, 1, 0), 1);
        CHECK.due("23 last below", x.share(2, 1, 1), 1);
        CHECK.due("23 second above", x.share(1, 1, 0), 1);
        CHECK.due("23 second below", x.share(1, 1, 1), 4);
        CHECK.due("23 first above", x.share(0, 1, 0), 2);
        CHECK.due("23 first below", x.share(0, 1, 1), 3);
        CHECK.due("23 rate 2 above", x.share(0, 2, 0), 7);
        CHECK.due("23 rate 2 below", x.share(0, 2, 1), 11);
        CHECK.due("23 rate 0", x.share(0, 0, 1), 1);
        x.turns(1, 3);
        x.tide(9);
        CHECK.due("23 WEIGHTS of now", x.share(1, 1, 1), 16);
        CHECK.due("23 k 3", x.share(3, 1, 0), Check.PLACE);
        CHECK.due("23 k -1", x.share(-1, 1, 0), Check.PLACE);
        CHECK.due("23 rate 10", x.share(0, 10, 0), Check.BAD);
        CHECK.due("23 rate -1", x.share(0, -1, 0), Check.BAD);
        CHECK.due("23 part 2", x.share(0, 1, 2), Check.BAD);
        CHECK.due("23 part -1", x.share(0, 1, -1), Check.BAD);
        x.drop(0);
        CHECK.due("23 no LINE any more, of any NODE", x.share(2, 1, 0), Check.STATE);
        CHECK.due("23 BAD ahead of STATE", x.share(2, 1, 2), Check.BAD);
        CHECK.due("23 PLACE ahead of STATE", x.share(3, 1, 0), Check.PLACE);
        x.line(0, 0, 1, 0);
        CHECK.due("23 another LINE does", x.share(0, 1, 1), 1);
        x.points(1);
        CHECK.due("23 no POINTS any more", x.share(2, 1, 0), Check.STATE);
        x.tree(0, 0);
        x.points(0);
        CHECK.due("23 one NODE needs no LINE", x.share(0, 5, 1), 1);
        shareIsMuch();
    }

    private static void shareIsMuch() {
        PairedLines x = new PairedLines();
        x.points(12);
        for (int v = 0; v < 11; v++) {
            x.line(1, 9999, v, v + 1);
        }
        x.line(0, 1, 0, 11);
        x.tree(0, 2048);
        CHECK.due("23 way of 11", x.count(3), 11);
        CHECK.due("23 MUCH", x.share(0, 9, 0), Check.MUCH);
        CHECK.due("23 BAD ahead of MUCH", x.share(0, 9, 2), Check.BAD);
        CHECK.due("23 not MUCH near the end", x.share(9, 9, 1), 9L * 19998 + 1);
        x.set(0, 0);
        CHECK.due("23 made by one that is MUCH, even 0 times", x.share(0, 9, 0), Check.MUCH);
        CHECK.due("23 by rate 0 none is", x.share(0, 0, 0), 1);
    }

    private static void cutsOff(PairedLines x, int point, int out, int rate, int depth, float due) {
        CHECK.due("24 cutOff at depth " + depth, x.cutOff(point, out, rate, depth), Float.floatToIntBits(due));
    }

    private static void promise24() {
        PairedLines x = Check.path(3);
        cutsOff(x, 0, 0, 7, 0, 1.0f);
        cutsOff(x, 0, 0, 7, 1, 1.0f / (1.0f + 7.0f));
        float middle = 1.0f / (1.0f + 14.0f);
        cutsOff(x, 0, 0, 7, 2, 1.0f / (1.0f + 7.0f * middle));
        cutsOff(x, 0, 0, 7, 3, 1.0f / (1.0f + 7.0f * middle));
        cutsOff(x, 1, 0, 3, 1, 1.0f / (1.0f + 3.0f + 6.0f));
        cutsOff(x, 1, 1, 3, 1, 1.0f / (1.0f + 6.0f));
        cutsOff(x, 1, 0, 0, 5, 1.0f);
        CHECK.due("24 a POINT that is OUT", x.cutOff(1, 2, 1, 1), -2);
        CHECK.due("24 point 3", x.cutOff(3, 0, 1, 1), -2);
        CHECK.due("24 point -1", x.cutOff(-1, 0, 1, 1), -2);
        CHECK.due("24 out 4096", x.cutOff(0, 4096, 1, 1), -2);
        CHECK.due("24 out -1", x.cutOff(0, -1, 1, 1), -2);
        CHECK.due("24 rate 10", x.cutOff(0, 0, 10, 1), -2);
        CHECK.due("24 rate -1", x.cutOff(0, 0, -1, 1), -2);
        CHECK.due("24 depth -1", x.cutOff(0, 0, 1, -1), -2);
        CHECK.due("24 depth 6", x.cutOff(0, 0, 1, 6), -2);
    }
}
