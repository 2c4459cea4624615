/** Promises 11 to 19: counts. */
public final class CountsTest {
    private static final Check CHECK = new Check("CountsTest");

    public static void main(String[] args) {
        promise11();
        promise12();
        promise13();
        promise14();
        promise15();
        promise16();
        promise17();
        promise18();
        promise19();
        CHECK.end();
    }

    private static void promise11() {
        PairedLines x = Check.path(5);
        long[] due = {1, 10, 1 * 3 + 1 * 4 + 2 * 4, 0, 0, 0, 0};
        for (int k = 0; k < 7; k++) {
            CHECK.due("11 counts(0, " + k + ")", x.counts(0, k), due[k]);
            CHECK.due("11 bits of no POINT", x.counts(4064, k), due[k]);
        }
        CHECK.due("11 with POINT 1 OUT", x.counts(2, 1), 7);
        CHECK.due("11 with POINT 1 OUT", x.counts(2, 2), 0);
        CHECK.due("11 all OUT", x.counts(4095, 0), 1);
        CHECK.due("11 k -1", x.counts(0, -1), Check.BAD);
        CHECK.due("11 k 7", x.counts(0, 7), Check.BAD);
        CHECK.due("11 out -1", x.counts(-1, 0), Check.BAD);
        CHECK.due("11 out 4096", x.counts(4096, 0), Check.BAD);
        PairedLines six = Check.apart(6, 0, 1000);
        CHECK.due("11 six LINES of 1000", six.counts(0, 6), 1000000000000000000L);
        CHECK.due("11 five of them", six.counts(0, 5), 6000000000000000L);
        six.set(0, 9223);
        CHECK.due("11 just within", six.counts(0, 6), 9223000000000000000L);
        six.set(0, 9224);
        CHECK.due("11 just beyond", six.counts(0, 6), Check.MUCH);
        CHECK.due("11 then all are", six.counts(0, 0), Check.MUCH);
        CHECK.due("11 BAD ahead of MUCH", six.counts(0, 7), Check.BAD);
        CHECK.due("11 not with a POINT OUT", six.counts(1, 5), 1000000000000000L);
        PairedLines five = Check.apart(6, 1, 9999);
        five.set(5, 0);
        CHECK.due("11 of six nothing, but of five MUCH", five.counts(0, 6), Check.MUCH);
        five.set(4, 0);
        CHECK.due("11 four of them fit", five.counts(0, 4), 19998L * 19998 * 19998 * 19998);
    }

    private static void promise12() {
        PairedLines x = Check.path(5);
        long[] due = {0, 15, 0, -10, 0, 1, 0, 0, 0, 0, 0, 0, 0};
        for (int i = 0; i < 13; i++) {
            CHECK.due("12 coef(0, " + i + ")", x.coef(0, i), due[i]);
        }
        CHECK.due("12 with POINT 4 OUT", x.coef(16, 4), 1);
        CHECK.due("12 with POINT 4 OUT", x.coef(16, 2), -6);
        CHECK.due("12 with POINT 4 OUT", x.coef(16, 0), 3);
        CHECK.due("12 with POINT 4 OUT", x.coef(16, 5), 0);
        CHECK.due("12 i -1", x.coef(0, -1), Check.BAD);
        CHECK.due("12 i 13", x.coef(0, 13), Check.BAD);
        CHECK.due("12 out 4096", x.coef(4096, 0), Check.BAD);
        CHECK.due("12 out -1", x.coef(-1, 0), Check.BAD);
        PairedLines six = Check.apart(6, 0, 1000);
        CHECK.due("12 twelve", six.coef(0, 12), 1);
        CHECK.due("12 none", six.coef(0, 0), 1000000000000000000L);
        CHECK.due("12 two", six.coef(0, 2), -6000000000000000L);
        six.set(0, 9999);
        CHECK.due("12 MUCH", six.coef(0, 12), Check.MUCH);
        CHECK.due("12 MUCH, of what would be 0", six.coef(0, 11), Check.MUCH);
        CHECK.due("12 BAD ahead of MUCH", six.coef(0, 13), Check.BAD);
    }

    private static void promise13() {
        PairedLines x = Check.path(5);
        CHECK.due("13 rate 0", x.sum(0, 0), 1);
        CHECK.due("13 rate 1", x.sum(0, 1), 26);
        CHECK.due("13 rate 9", x.sum(0, 9), 1 + 90 + 15 * 81);
        CHECK.due("13 with OUT", x.sum(2, 2), 15);
        CHECK.due("13 rate -1", x.sum(0, -1), Check.BAD);
        CHECK.due("13 rate 10", x.sum(0, 10), Check.BAD);
        CHECK.due("13 out -1", x.sum(-1, 1), Check.BAD);
        CHECK.due("13 out 4096", x.sum(4096, 1), Check.BAD);
        PairedLines six = Check.apart(6, 0, 1000);
        CHECK.due("13 within", six.sum(0, 1), 1006015020015006001L);
        CHECK.due("13 a TERM is MUCH", six.sum(0, 2), Check.MUCH);
        CHECK.due("13 by rate 0", six.sum(0, 0), 1);
        six.set(0, 9999);
        CHECK.due("13 COUNT is MUCH, even by rate 0", six.sum(0, 0), Check.MUCH);
        // 9223 * 10 ^ 15 of six and 9223 * 5 * 10 ^ 12 and more of five are above 2 ^ 63 together
        six.set(0, 9223);
        CHECK.due("13 COUNTS fit", six.counts(0, 6), 9223000000000000000L);
        CHECK.due("13 SUM is MUCH", six.sum(0, 1), Check.MUCH);
        CHECK.due("13 BAD ahead of MUCH", six.sum(0, 10), Check.BAD);
        greatestSum();
    }

    /** Three ways of three LINES each, whose SUMS (1 + a) * (1 + c) + b are 649657, 649159 and 21870289: one times the other 2 ^ 63 - 1. */
    private static void greatestSum() {
        PairedLines x = new PairedLines();
        x.points(12);
        int[] figures = {805, 21, 805, 0, 804, 329, 805, 0, 4675, 5313, 4675};
        for (int a = 0; a < 11; a++) {
            if (a % 4 != 3) {
                x.line(0, figures[a], a, a + 1);
            }
        }
        CHECK.due("13 the greatest of 64 bits", x.sum(0, 1), Long.MAX_VALUE);
        CHECK.due("13 likely then", x.likely(0, 1), 6);
        CHECK.due("13 its mean is MUCH", x.mean(0, 1, 0), Check.MUCH);
        CHECK.due("13 alone of it", x.alone(0, 0, 1, 1), 649657);
        x.set(7, 5314);
        CHECK.due("13 beyond it", x.sum(0, 1), Check.MUCH);
        x.set(7, 5312);
        CHECK.due("13 below it", x.sum(0, 1), 649657L * 649159 * 21870288);
    }

    private static void promise14() {
        PairedLines x = Check.path(5);
        CHECK.due("14 rate 0", x.likely(0, 0), 0);
        CHECK.due("14 rate 1", x.likely(0, 1), 2);
        CHECK.due("14 with OUT", x.likely(2, 1), 1);
        PairedLines one = Check.apart(1, 0, 1);
        CHECK.due("14 of like ones the least", one.likely(0, 1), 0);
        CHECK.due("14 rate 2", one.likely(0, 2), 1);
        CHECK.due("14 rate -1", x.likely(0, -1), -2);
        CHECK.due("14 rate 10", x.likely(0, 10), -2);
        CHECK.due("14 out -1", x.likely(-1, 1), -2);
        CHECK.due("14 out 4096", x.likely(4096, 1), -2);
        PairedLines six = Check.apart(6, 0, 1000);
        CHECK.due("14 six", six.likely(0, 1), 6);
        CHECK.due("14 a TERM is MUCH", six.likely(0, 2), -5);
        six.set(0, 9223);
        CHECK.due("14 SUM is MUCH, but no TERM", six.likely(0, 1), 6);
        six.set(0, 9999);
        CHECK.due("14 COUNT is MUCH", six.likely(0, 0), -5);
    }

    private static void promise15() {
        PairedLines x = Check.path(5);
        CHECK.due("15 above", x.mean(0, 1, 0), 20);
        CHECK.due("15 below", x.mean(0, 1, 1), 13);
        CHECK.due("15 rate 2 above", x.mean(0, 2, 0), 140);
        CHECK.due("15 rate 2 below", x.mean(0, 2, 1), 81);
        CHECK.due("15 of nothing above", x.mean(0, 0, 0), 0);
        CHECK.due("15 of nothing below", x.mean(0, 0, 1), 1);
        CHECK.due("15 nothing with all OUT", x.mean(4095, 3, 1), 1);
        CHECK.due("15 part -1", x.mean(0, 1, -1), Check.BAD);
        CHECK.due("15 part 2", x.mean(0, 1, 2), Check.BAD);
        CHECK.due("15 rate 10", x.mean(0, 10, 0), Check.BAD);
        CHECK.due("15 rate -1", x.mean(0, -1, 0), Check.BAD);
        CHECK.due("15 out 4096", x.mean(4096, 1, 0), Check.BAD);
        CHECK.due("15 out -1", x.mean(-1, 1, 0), Check.BAD);
        PairedLines six = Check.apart(6, 0, 1000);
        CHECK.due("15 six above", six.mean(0, 1, 0), 6000);
        CHECK.due("15 six below", six.mean(0, 1, 1), 1001);
        six.set(0, 2000);
        CHECK.due("15 SUM fits", six.sum(0, 1), 2001L * 1001 * 1001 * 1001 * 1001 * 1001);
        CHECK.due("15 B is MUCH", six.mean(0, 1, 0), Check.MUCH);
        CHECK.due("15 B is MUCH, below too", six.mean(0, 1, 1), Check.MUCH);
        CHECK.due("15 BAD ahead of MUCH", six.mean(0, 1, 2), Check.BAD);
    }

    private static void promise16() {
        PairedLines x = Check.path(5);
        // B 40, A 70, SUM 26: (70 * 26 - 1600) of 676
        CHECK.due("16 above", x.spread(0, 1, 0), 55);
        CHECK.due("16 below", x.spread(0, 1, 1), 169);
        CHECK.due("16 of nothing above", x.spread(0, 0, 0), 0);
        CHECK.due("16 of nothing below", x.spread(0, 0, 1), 1);
        CHECK.due("16 part 2", x.spread(0, 1, 2), Check.BAD);
        CHECK.due("16 part -1", x.spread(0, 1, -1), Check.BAD);
        CHECK.due("16 rate 10", x.spread(0, 10, 0), Check.BAD);
        CHECK.due("16 rate -1", x.spread(0, -1, 0), Check.BAD);
        CHECK.due("16 out 4096", x.spread(4096, 1, 0), Check.BAD);
        CHECK.due("16 out -1", x.spread(-1, 1, 0), Check.BAD);
        PairedLines two = Check.apart(2, 0, 9999);
        CHECK.due("16 two above", two.spread(0, 1, 0), 9999);
        CHECK.due("16 two below", two.spread(0, 1, 1), 10000L * 10000 / 2);
        // SUM * SUM is 10 ^ 16, B * B and A * SUM are below 2 ^ 63 too; by rate 9 they are 81 * 81 times as much
        CHECK.due("16 a product is MUCH", two.spread(0, 9, 0), Check.MUCH);
        CHECK.due("16 the mean is not", two.mean(0, 9, 0), 9 * 9999);
        CHECK.due("16 nor below", two.mean(0, 9, 1), (9 * 9999 + 1) / 2);
    }

    private static void meansAs(PairedLines x, int out, int rate, double m) {
        CHECK.due("17 how 0", x.meanAs(out, rate, 0), (long) (m * 1000));
        CHECK.due("17 how 1", x.meanAs(out, rate, 1), Float.floatToIntBits((float) m));
        CHECK.due("17 how 2", x.meanAs(out, rate, 2), Double.doubleToLongBits(m));
        CHECK.due("17 how 3", x.meanAs(out, rate, 3), (int) (m % 1.0 * 1000));
        CHECK.due("17 how 4", x.meanAs(out, rate, 4), Double.doubleToLongBits(m % 0.375));
        CHECK.due("17 how 5", x.meanAs(out, rate, 5), Float.floatToIntBits((float) m % 0.3f));
    }

    private static void promise17() {
        PairedLines x = Check.path(5);
        meansAs(x, 0, 0, 0.0);
        meansAs(x, 0, 1, (double) 40 / 26);
        meansAs(x, 2, 3, (double) 21 / 22);
        PairedLines six = Check.apart(6, 0, 1000);
        meansAs(six, 0, 1, (double) (6000L * 1001 * 1001 * 1001 * 1001 * 1001) / (1001L * 1001 * 1001 * 1001 * 1001 * 1001));
        CHECK.due("17 MUCH", six.meanAs(0, 2, 0), Check.MUCH);
        six.set(0, 2000);
        CHECK.due("17 B is MUCH", six.meanAs(0, 1, 0), Check.MUCH);
        CHECK.due("17 how -1", x.meanAs(0, 1, -1), Check.BAD);
        CHECK.due("17 how 6", x.meanAs(0, 1, 6), Check.BAD);
        CHECK.due("17 rate 10", x.meanAs(0, 10, 0), Check.BAD);
        CHECK.due("17 rate -1", x.meanAs(0, -1, 0), Check.BAD);
        CHECK.due("17 out 4096", x.meanAs(4096, 1, 0), Check.BAD);
        CHECK.due("17 out -1", x.meanAs(-1, 1, 0), Check.BAD);
        CHECK.due("17 BAD ahead of MUCH", six.meanAs(0, 1, 6), Check.BAD);
    }

    private static void promise18() {
        CHECK.due("18 no POINTS", new PairedLines().most(0), 0);
        CHECK.due("18 path", Check.path(5).most(0), 2);
        CHECK.due("18 path with a POINT OUT", Check.path(5).most(2), 1);
        CHECK.due("18 all OUT", Check.path(5).most(4095), 0);
        CHECK.due("18 WEIGHT 0 counts too", Check.apart(6, 0, 0).most(0), 6);
        CHECK.due("18 MUCH does not matter", Check.apart(6, 0, 9999).most(0), 6);
        PairedLines star = new PairedLines();
        star.points(12);
        for (int v = 0; v < 11; v++) {
            star.line(0, 1, v, 11);
        }
        CHECK.due("18 star", star.most(0), 1);
        CHECK.due("18 star with its middle OUT", star.most(2048), 0);
        CHECK.due("18 out -1", star.most(-1), -2);
        CHECK.due("18 out 4096", star.most(4096), -2);
    }

    private static void promise19() {
        PairedLines x = new PairedLines();
        CHECK.due("19 no POINTS", x.other(0), 1);
        x.points(12);
        long[] whole = {1, 66, 1485, 13860, 51975, 62370, 10395};
        for (int k = 0; k < 7; k++) {
            CHECK.due("19 no LINES, " + k, x.other(k), whole[k]);
            CHECK.due("19 COUNTS of now between, " + k, x.counts(0, k), k == 0 ? 1 : 0);
        }
        PairedLines path = Check.path(4);
        CHECK.due("19 path, 1", path.other(1), 3);
        CHECK.due("19 path, 2", path.other(2), 1);
        path.drop(1);
        CHECK.due("19 path less one LINE, 1", path.other(1), 4);
        CHECK.due("19 path less one LINE, 2", path.other(2), 2);
        CHECK.due("19 whole", Check.whole(8, 0, 9).other(1), 0);
        CHECK.due("19 MUCH does not matter", Check.apart(6, 0, 9999).other(1), 60);
        CHECK.due("19 k -1", x.other(-1), Check.BAD);
        CHECK.due("19 k 7", x.other(7), Check.BAD);
    }
}
