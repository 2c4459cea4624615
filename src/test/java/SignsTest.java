/** Promises 25 and 26: signs. */
public final class SignsTest {
    private static final Check CHECK = new Check("SignsTest");

    public static void main(String[] args) {
        promise25();
        promise26();
        CHECK.end();
    }

    /** Two POINTS and a LINE of FIGURE 4: x * x - 4. */
    private static PairedLines twoPoints() {
        return Check.apart(1, 0, 4);
    }

    private static void promise25() {
        PairedLines x = twoPoints();
        for (int p = -60; p <= 60; p++) {
            for (int q = 1; q <= 6; q++) {
                CHECK.due("25 sign(0, " + p + ", " + q + ")", x.sign(0, p, q), Integer.compare(p * p, 4 * q * q));
            }
        }
        CHECK.due("25 one OUT: x", x.sign(1, -5, 2), -1);
        CHECK.due("25 both OUT: 1", x.sign(3, -5, 2), 1);
        CHECK.due("25 p -61", x.sign(0, -61, 1), -2);
        CHECK.due("25 p 61", x.sign(0, 61, 1), -2);
        CHECK.due("25 q 0", x.sign(0, 1, 0), -2);
        CHECK.due("25 q 7", x.sign(0, 1, 7), -2);
        CHECK.due("25 out -1", x.sign(-1, 1, 1), -2);
        CHECK.due("25 out 4096", x.sign(4096, 1, 1), -2);
        PairedLines none = new PairedLines();
        none.points(12);
        CHECK.due("25 60 twelve times is MUCH", none.sign(0, 60, 1), -5);
        CHECK.due("25 -60 too", none.sign(0, -60, 1), -5);
        CHECK.due("25 38 twelve times fits", none.sign(0, 38, 1), 1);
        CHECK.due("25 39 does not", none.sign(0, 39, 1), -5);
        CHECK.due("25 60 ten times fits", none.sign(3, 60, 6), 1);
        CHECK.due("25 -60 nine times", none.sign(7, -60, 6), -1);
        PairedLines six = Check.apart(6, 0, 9999);
        CHECK.due("25 COUNT is MUCH", six.sign(0, 0, 1), -5);
        CHECK.due("25 BAD ahead of MUCH", six.sign(0, 61, 1), -2);
        PairedLines five = Check.apart(5, 0, 6000);
        CHECK.due("25 all five fit", five.sign(0, 0, 1), -1);
        CHECK.due("25 times 2 ten times it does not", five.sign(0, 0, 2), -5);
        PairedLines sums = Check.apart(6, 0, 1268);
        sums.set(5, 973);
        CHECK.due("25 a sum is MUCH, its parts are not", sums.sign(0, 52, 1), -5);
        PairedLines less = Check.apart(6, 0, 25);
        less.set(5, 8600);
        CHECK.due("25 a sum far below nothing", less.sign(0, 59, 6), -5);
        wholeWithinLong();
    }

    /** Without LINES the number at p is p as many times as there are POINTS. */
    private static void wholeWithinLong() {
        PairedLines none = new PairedLines();
        none.points(9);
        CHECK.due("25 -60 nine times", none.sign(0, -60, 1), -1);
        none.points(10);
        CHECK.due("25 -60 ten times", none.sign(0, -60, 1), 1);
        none.points(11);
        // 60 eleven times is above 2 ^ 63, 52 eleven times is not
        CHECK.due("25 -60 eleven times", none.sign(0, -60, 1), -5);
        CHECK.due("25 -52 eleven times", none.sign(0, -52, 1), -1);
        CHECK.due("25 -53 eleven times", none.sign(0, -53, 1), -5);
    }

    private static void promise26() {
        PairedLines x = twoPoints();
        CHECK.due("26 all", x.changes(0, 1, -60, 60), 2);
        CHECK.due("26 0 on the way", x.changes(0, 1, -3, -1), 1);
        CHECK.due("26 begins with 0", x.changes(0, 1, -2, 1), 0);
        CHECK.due("26 ends with 0", x.changes(0, 1, -1, 2), 0);
        CHECK.due("26 one", x.changes(0, 1, 5, 5), 0);
        CHECK.due("26 of 6", x.changes(0, 6, -60, 60), 2);
        CHECK.due("26 of 6, half", x.changes(0, 6, 0, 60), 1);
        CHECK.due("26 x: 0 between", x.changes(1, 1, -1, 1), 1);
        CHECK.due("26 x: 0 alone", x.changes(1, 1, 0, 0), 0);
        CHECK.due("26 from above to", x.changes(0, 1, 1, 0), -2);
        CHECK.due("26 from -61", x.changes(0, 1, -61, 0), -2);
        CHECK.due("26 to 61", x.changes(0, 1, 0, 61), -2);
        CHECK.due("26 q 0", x.changes(0, 0, 0, 1), -2);
        CHECK.due("26 q 7", x.changes(0, 7, 0, 1), -2);
        CHECK.due("26 out -1", x.changes(-1, 1, 0, 1), -2);
        CHECK.due("26 out 4096", x.changes(4096, 1, 0, 1), -2);
        CHECK.due("26 both too great", x.changes(0, 1, 61, 62), -2);
        CHECK.due("26 both too small", x.changes(0, 1, -62, -61), -2);
        PairedLines none = new PairedLines();
        none.points(12);
        CHECK.due("26 within", none.changes(0, 1, -38, 38), 0);
        CHECK.due("26 the last is MUCH", none.changes(0, 1, 0, 39), -5);
        CHECK.due("26 the first is MUCH", none.changes(0, 1, -39, 0), -5);
        CHECK.due("26 BAD ahead of MUCH", none.changes(0, 1, 60, 59), -2);
        CHECK.due("26 way of four", Check.path(4).changes(0, 6, -60, 60), 4);
    }
}
