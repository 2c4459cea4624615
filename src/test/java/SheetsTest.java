/** Promises 34 to 44: sheets, nets told by rows, the image. */
public final class SheetsTest {
    private static final Check CHECK = new Check("SheetsTest");

    public static void main(String[] args) {
        promise34();
        promise35();
        promise36();
        promise37();
        promise38();
        promise39();
        promise40();
        promise41();
        promise42and43();
        promise44();
        CHECK.end();
    }

    /** SHEET s is of sort s, all of n places. */
    private static PairedLines fourSheets(int n) {
        PairedLines x = new PairedLines();
        for (int s = 0; s < 4; s++) {
            x.sheet(s, s, n);
        }
        return x;
    }

    private static void promise34() {
        PairedLines x = new PairedLines();
        CHECK.due("34 s -1", x.sheet(-1, 0, 1), -2);
        CHECK.due("34 s 4", x.sheet(4, 0, 1), -2);
        CHECK.due("34 sort -2", x.sheet(0, -2, 1), -2);
        CHECK.due("34 sort 4", x.sheet(0, 4, 1), -2);
        CHECK.due("34 n 61", x.sheet(0, 0, 61), -2);
        CHECK.due("34 n -1", x.sheet(0, 0, -1), -14);
        CHECK.due("34 n -1, but BAD", x.sheet(0, 4, -1), -2);
        CHECK.due("34 refused: missing still", x.read(0, 0, 0), Check.NOTHING);
        for (int sort = 0; sort < 4; sort++) {
            CHECK.due("34 n 60", x.sheet(0, sort, 60), 1);
            CHECK.due("34 all 0", x.read(0, 59, 0), 0);
            CHECK.due("34 no more", x.read(0, 60, 0), Check.PLACE);
            x.cell(0, 59, 5);
            CHECK.due("34 refused: it stays", x.sheet(0, sort, -1), -14);
            CHECK.due("34 what stands there too", x.read(0, 59, 1), 5);
            CHECK.due("34 anew", x.sheet(0, sort, 60), 1);
            CHECK.due("34 all 0 again", x.read(0, 59, 0), 0);
        }
        CHECK.due("34 n 0", x.sheet(1, 2, 0), 1);
        CHECK.due("34 no place", x.read(1, 0, 0), Check.PLACE);
        CHECK.due("34 missing, n 99", x.sheet(1, -1, 99), 1);
        CHECK.due("34 missing, n -99", x.sheet(0, -1, -99), 1);
        CHECK.due("34 it is", x.read(0, 0, 0), Check.NOTHING);
        CHECK.due("34 it is", x.read(1, 0, 0), Check.NOTHING);
    }

    private static void promise35() {
        PairedLines x = fourSheets(2);
        CHECK.due("35 greatest int", x.cell(0, 0, 2147483647L), 1);
        CHECK.due("35 it is", x.read(0, 0, 0), 2147483647L);
        CHECK.due("35 no int", x.cell(0, 0, 2147483648L), -5);
        CHECK.due("35 least int", x.cell(0, 1, -2147483648L), 1);
        CHECK.due("35 no int", x.cell(0, 1, -2147483649L), -5);
        CHECK.due("35 refused: it stays", x.read(0, 1, 0), -2147483648L);
        CHECK.due("35 a long", x.cell(1, 1, Long.MAX_VALUE), 1);
        CHECK.due("35 it is", x.read(1, 1, 0), Long.MAX_VALUE);
        CHECK.due("35 a float", x.cell(2, 1, 33554435L), 1);
        CHECK.due("35 it is", x.read(2, 1, 0), Float.floatToIntBits(33554435f));
        CHECK.due("35 a double", x.cell(3, 1, 9007199254740995L), 1);
        CHECK.due("35 it is", x.read(3, 1, 0), Double.doubleToLongBits((double) 9007199254740995L));
        CHECK.due("35 s -1", x.cell(-1, 0, 1), -2);
        CHECK.due("35 s 4", x.cell(4, 0, 1), -2);
        CHECK.due("35 i -1", x.cell(0, -1, 1), -12);
        CHECK.due("35 i 2", x.cell(0, 2, 1), -12);
        CHECK.due("35 PLACE ahead of MUCH", x.cell(0, 2, Long.MIN_VALUE), -12);
        x.sheet(0, -1, 0);
        CHECK.due("35 missing ahead of PLACE", x.cell(0, 2, 1), -11);
    }

    private static long readByHost(int sort, long v, int how) {
        float f = (float) v;
        double d = (double) v;
        switch (how) {
            case 0:
                return sort < 2 ? v : sort == 2 ? Float.floatToIntBits(f) : Double.doubleToLongBits(d);
            case 1:
                return sort < 2 ? (int) v : sort == 2 ? (int) f : (int) d;
            case 2:
                return sort < 2 ? v : sort == 2 ? (long) f : (long) d;
            case 3:
                return Float.floatToIntBits(sort == 0 ? (float) (int) v : sort < 3 ? f : (float) d);
            default:
                return (byte) (sort < 2 ? (int) v : sort == 2 ? (int) f : (int) d);
        }
    }

    private static void promise36() {
        PairedLines x = fourSheets(3);
        long[] numbers = {0, 1, -1, 2, 3, 127, 128, 255, 256, -128, -129, 16777217, -16777219, 2147483647L, -2147483648L,
            2147483648L, 4294967295L, -4294967297L, 9007199254740993L, Long.MAX_VALUE, Long.MIN_VALUE, 1L << 62, -(1L << 55) - 1};
        for (long v : numbers) {
            for (int sort = 0; sort < 4; sort++) {
                if (sort > 0 || v == (int) v) {
                    x.cell(sort, 2, v);
                    for (int how = 0; how < 5; how++) {
                        CHECK.due("36 " + v + " of sort " + sort + " how " + how, x.read(sort, 2, how), readByHost(sort, v, how));
                    }
                }
            }
        }
        CHECK.due("36 s -1", x.read(-1, 0, 0), Check.BAD);
        CHECK.due("36 s 4", x.read(4, 0, 0), Check.BAD);
        CHECK.due("36 how -1", x.read(0, 0, -1), Check.BAD);
        CHECK.due("36 how 5", x.read(0, 0, 5), Check.BAD);
        CHECK.due("36 i -1", x.read(0, -1, 0), Check.PLACE);
        CHECK.due("36 i 3", x.read(0, 3, 0), Check.PLACE);
        CHECK.due("36 BAD ahead of PLACE", x.read(0, 3, 5), Check.BAD);
        x.sheet(0, -1, 0);
        CHECK.due("36 missing", x.read(0, 3, 0), Check.NOTHING);
        CHECK.due("36 BAD ahead of missing", x.read(0, 3, 5), Check.BAD);
    }

    private static void promise37() {
        PairedLines x = fourSheets(3);
        long[] numbers = {1, -1, 7, -7, 100, 1000003};
        for (long v : numbers) {
            for (int m : new int[] {1, 2, 3, 7, 10, 99}) {
                for (int s = 0; s < 4; s++) {
                    x.cell(s, 1, v);
                    CHECK.due("37 parts", x.parts(s, 1, m), 1);
                }
                CHECK.due("37 int " + v + " / " + m, x.read(0, 1, 0), (int) v / m);
                CHECK.due("37 long", x.read(1, 1, 0), v / m);
                CHECK.due("37 float", x.read(2, 1, 0), Float.floatToIntBits((float) v / m));
                CHECK.due("37 double", x.read(3, 1, 0), Double.doubleToLongBits((double) v / m));
                CHECK.due("37 double as a float", x.read(3, 1, 3), Float.floatToIntBits((float) ((double) v / m)));
            }
        }
        CHECK.due("37 s -1", x.parts(-1, 0, 1), -2);
        CHECK.due("37 s 4", x.parts(4, 0, 1), -2);
        CHECK.due("37 m 0", x.parts(0, 0, 0), -2);
        CHECK.due("37 m -1", x.parts(0, 0, -1), -2);
        CHECK.due("37 m 100", x.parts(0, 0, 100), -2);
        CHECK.due("37 BAD ahead of PLACE", x.parts(0, 3, 0), -2);
        CHECK.due("37 i -1", x.parts(0, -1, 1), -12);
        CHECK.due("37 i 3", x.parts(0, 3, 1), -12);
        x.sheet(0, -1, 0);
        CHECK.due("37 missing", x.parts(0, 3, 1), -11);
        downToNothing(3);
        downToNothing(-5);
        signsOfNothing();
    }

    /** A whole number's 0 has no sign, a float's or a double's keeps that of what it was a part of, wherever it comes to. */
    private static void signsOfNothing() {
        int less = Float.floatToIntBits(-0.0f);
        for (int s = 0; s < 4; s++) {
            PairedLines x = fourSheets(3);
            x.cell(s, 0, -7);
            for (int i = 0; i < 170; i++) {
                x.parts(s, 0, 99);
            }
            int due = s < 2 ? 0 : less;
            CHECK.due("37 a part of -7 as a float, of sort " + s, x.read(s, 0, 3), due);
            CHECK.due("37 as a long", x.read(s, 0, 2), 0);
            x.cell(s, 2, -1);
            x.copy(s, 0, s, 1, 1);
            CHECK.due("40 it keeps its sign", x.read(s, 1, 3), due);
            CHECK.due("40 the one behind has its own", x.read(s, 2, 2), -1);
            CHECK.due("40 and what was copied", x.read(s, 0, 3), due);
            x.cell(s, 0, 0);
            CHECK.due("35 a whole 0 comes there", x.read(s, 0, 3), 0);
            int other = (s + 1) % 4;
            x.sheet(other, s, 2);
            x.copy(s, 1, other, 0, 1);
            CHECK.due("40 another sheet", x.read(other, 0, 3), due);
            x.copy(other, 1, other, 0, 1);
            CHECK.due("40 a 0 comes there", x.read(other, 0, 3), 0);
            x.sheet(s, s, 3);
            CHECK.due("34 all 0", x.read(s, 1, 3), 0);
            CHECK.due("34 also where one was below nothing", x.read(s, 2, 0), 0);
        }
    }

    /** The least floats and doubles have fewer digits, and behind them stands a 0 that keeps its sign. */
    private static void downToNothing(long v) {
        PairedLines x = fourSheets(1);
        x.cell(2, 0, v);
        x.cell(3, 0, v);
        float f = (float) v;
        double d = (double) v;
        for (int i = 0; i < 180; i++) {
            int m = i % 2 == 0 ? 99 : 98;
            x.parts(2, 0, m);
            x.parts(3, 0, m);
            f /= m;
            d /= m;
            CHECK.due("37 float down, " + i, x.read(2, 0, 0), Float.floatToIntBits(f));
            CHECK.due("37 double down, " + i, x.read(3, 0, 0), Double.doubleToLongBits(d));
            CHECK.due("37 double down as a float, " + i, x.read(3, 0, 3), Float.floatToIntBits((float) d));
        }
        CHECK.due("37 nothing is left", x.read(3, 0, 2), 0);
        CHECK.due("37 which is COUNT 1 of no net", x.same(3, 0), 0);
    }

    private static void promise38() {
        for (int sort = 0; sort < 4; sort++) {
            PairedLines x = Check.path(5);
            x.sheet(0, sort, 7);
            x.cell(0, 6, 9);
            CHECK.due("38 how many", x.writes(0, 0), 6);
            long[] due = {0, 15, 0, -10, 0, 1, 9};
            for (int i = 0; i < 7; i++) {
                CHECK.due("38 place " + i, x.read(0, i, 2), due[i]);
            }
            CHECK.due("38 with OUT", x.writes(0, 31), 1);
            CHECK.due("38 the first", x.read(0, 0, 2), 1);
            CHECK.due("38 the rest stays", x.read(0, 1, 2), 15);
            x.sheet(0, sort, 4);
            CHECK.due("38 too short", x.writes(0, 0), -12);
            CHECK.due("38 what stands ahead came", x.read(0, 3, 2), -10);
            x.sheet(0, sort, 0);
            CHECK.due("38 no place", x.writes(0, 0), -12);
        }
        PairedLines x = Check.apart(3, 0, 2000);
        x.sheet(1, 0, 7);
        x.cell(1, 0, 4);
        CHECK.due("38 no int", x.writes(1, 0), -5);
        CHECK.due("38 refused: it stays", x.read(1, 0, 0), 4);
        x.set(0, 1);
        CHECK.due("38 an int", x.writes(1, 0), 7);
        CHECK.due("38 it is", x.read(1, 0, 0), -4000000);
        x.sheet(2, 2, 7);
        x.set(0, 2001);
        CHECK.due("38 floats", x.writes(2, 0), 7);
        CHECK.due("38 by a cast", x.read(2, 0, 0), Float.floatToIntBits((float) -8004000000L));
        // a net of seven POINTS: its first number is 0, the next is no int
        PairedLines seven = new PairedLines();
        seven.points(7);
        for (int i = 0; i < 3; i++) {
            seven.line(0, 2000, 2 * i, 2 * i + 1);
        }
        seven.sheet(0, 0, 1);
        seven.cell(0, 0, 8);
        CHECK.due("38 PLACE comes first there", seven.writes(0, 0), -12);
        CHECK.due("38 what stands ahead came", seven.read(0, 0, 0), 0);
        seven.sheet(0, 0, 2);
        seven.cell(0, 0, 8);
        CHECK.due("38 MUCH comes first there", seven.writes(0, 0), -5);
        CHECK.due("38 what stands ahead came", seven.read(0, 0, 0), 0);
        PairedLines much = Check.apart(6, 0, 9999);
        CHECK.due("38 missing ahead of MUCH", much.writes(0, 0), -11);
        much.sheet(0, 1, 0);
        CHECK.due("38 MUCH ahead of PLACE", much.writes(0, 0), -5);
        CHECK.due("38 s -1", much.writes(-1, 0), -2);
        CHECK.due("38 s 4", much.writes(4, 0), -2);
        CHECK.due("38 out -1", much.writes(1, -1), -2);
        CHECK.due("38 out 4096", much.writes(1, 4096), -2);
    }

    private static void promise39() {
        for (int sort = 0; sort < 4; sort++) {
            PairedLines x = Check.path(5);
            x.sheet(0, sort, 9);
            CHECK.due("39 COUNT 0 is 1", x.same(0, 0), 0);
            x.cell(0, 0, 1);
            CHECK.due("39 COUNT 1", x.same(0, 0), 1);
            x.cell(0, 1, 10);
            CHECK.due("39 COUNT 2", x.same(0, 0), 2);
            x.cell(0, 2, 15);
            CHECK.due("39 all", x.same(0, 0), -1);
            x.cell(0, 8, 1);
            CHECK.due("39 behind 6", x.same(0, 0), 8);
            x.cell(0, 6, 1);
            CHECK.due("39 COUNT 6", x.same(0, 0), 6);
            CHECK.due("39 with OUT", x.same(0, 1), 1);
            x.sheet(0, sort, 60);
            x.counts(0, 0);
            CHECK.due("39 with OUT, ahead", x.same(0, 1), 0);
            x.cell(0, 0, 1);
            x.cell(0, 1, 9);
            x.cell(0, 2, 8);
            CHECK.due("39 with OUT, all of sixty", x.same(0, 1), -1);
            x.cell(0, 59, 1);
            CHECK.due("39 the last of sixty", x.same(0, 1), 59);
            x.sheet(0, sort, 0);
            CHECK.due("39 of no place", x.same(0, 0), -1);
        }
        PairedLines x = Check.apart(4, 0, 2001);
        for (int s = 0; s < 4; s++) {
            x.sheet(s, s, 5);
            x.cell(s, 0, 1);
            x.cell(s, 1, 8004);
            x.cell(s, 2, 6L * 2001 * 2001);
            x.cell(s, 3, s == 0 ? 0 : 4L * 2001 * 2001 * 2001);
            x.cell(s, 4, s == 0 ? 0 : 2001L * 2001 * 2001 * 2001);
        }
        CHECK.due("39 one that can't be an int", x.same(0, 0), 3);
        CHECK.due("39 longs", x.same(1, 0), -1);
        CHECK.due("39 floats", x.same(2, 0), -1);
        CHECK.due("39 doubles", x.same(3, 0), -1);
        x.cell(2, 4, 2001L * 2001 * 2001 * 2001 + 1);
        CHECK.due("39 the same float", x.same(2, 0), -1);
        x.cell(1, 4, 2001L * 2001 * 2001 * 2001 + 1);
        CHECK.due("39 another long", x.same(1, 0), 4);
        PairedLines much = Check.apart(6, 0, 9999);
        CHECK.due("39 missing ahead of MUCH", much.same(0, 0), -11);
        much.sheet(0, 1, 0);
        CHECK.due("39 MUCH even of no place", much.same(0, 0), -5);
        CHECK.due("39 s -1", much.same(-1, 0), -2);
        CHECK.due("39 s 4", much.same(4, 0), -2);
        CHECK.due("39 out -1", much.same(1, -1), -2);
        CHECK.due("39 out 4096", much.same(1, 4096), -2);
    }

    private static void promise40() {
        for (int sort = 0; sort < 4; sort++) {
            PairedLines x = new PairedLines();
            x.sheet(0, sort, 5);
            x.sheet(1, sort, 4);
            for (int i = 0; i < 5; i++) {
                x.cell(0, i, 10 + i);
            }
            CHECK.due("40 copy", x.copy(0, 2, 1, 1, 3), 3);
            CHECK.due("40 not ahead", x.read(1, 0, 2), 0);
            CHECK.due("40 first", x.read(1, 1, 2), 12);
            CHECK.due("40 last", x.read(1, 3, 2), 14);
            CHECK.due("40 the same, up", x.copy(0, 0, 0, 1, 4), 4);
            CHECK.due("40 as they were", x.read(0, 4, 2), 13);
            CHECK.due("40 as they were", x.read(0, 1, 2), 10);
            CHECK.due("40 the same, down", x.copy(0, 1, 0, 0, 4), 4);
            CHECK.due("40 as they were", x.read(0, 3, 2), 13);
            CHECK.due("40 too long here", x.copy(0, 2, 1, 0, 4), -12);
            CHECK.due("40 too long there", x.copy(0, 0, 1, 0, 5), -12);
            CHECK.due("40 refused: nothing came", x.read(1, 0, 2), 0);
            CHECK.due("40 n -1", x.copy(0, 1, 1, 1, -1), -12);
            CHECK.due("40 i -1", x.copy(0, -1, 1, 1, 1), -12);
            CHECK.due("40 j -1", x.copy(0, 1, 1, -1, 1), -12);
            CHECK.due("40 far off", x.copy(0, 1, 1, 1, Integer.MAX_VALUE), -12);
            CHECK.due("40 i far off", x.copy(0, Integer.MAX_VALUE, 1, 1, 1), -12);
            CHECK.due("40 j far off", x.copy(0, 1, 1, Integer.MAX_VALUE, 1), -12);
            CHECK.due("40 none, at the ends", x.copy(0, 5, 1, 4, 0), 0);
            CHECK.due("40 none, behind the end", x.copy(0, 6, 1, 4, 0), -12);
            CHECK.due("40 none, behind the end there", x.copy(0, 5, 1, 5, 0), -12);
            CHECK.due("40 missing", x.copy(0, 0, 2, 0, 1), -11);
            CHECK.due("40 missing", x.copy(2, 0, 0, 0, 1), -11);
            CHECK.due("40 missing ahead of PLACE", x.copy(2, -1, 0, 0, 1), -11);
            x.sheet(2, (sort + 1) % 4, 5);
            CHECK.due("40 unlike sorts", x.copy(0, 0, 2, 0, 1), -13);
            CHECK.due("40 KIND ahead of PLACE", x.copy(0, 0, 2, 0, -1), -13);
            CHECK.due("40 from -1", x.copy(-1, 0, 0, 0, 1), -2);
            CHECK.due("40 from 4", x.copy(4, 0, 0, 0, 1), -2);
            CHECK.due("40 to -1", x.copy(0, 0, -1, 0, 1), -2);
            CHECK.due("40 to 4", x.copy(3, 0, 4, 0, 1), -2);
        }
    }

    private static void cells(PairedLines x, int s, int... numbers) {
        for (int i = 0; i < numbers.length; i++) {
            x.cell(s, i, numbers[i]);
        }
    }

    private static void promise41() {
        PairedLines x = fourSheets(14);
        x.points(4);
        cells(x, 0, 9, 9, 3, 50, 0, 1, 0, 5, 3, 2, 6, 5, 3, 2);
        CHECK.due("41 one LINE", x.build(0, 2, 1), 1);
        CHECK.due("41 its KIND", x.told(0, 0), 3);
        CHECK.due("41 its FIGURE", x.told(0, 1), 50);
        CHECK.due("41 its POINTS", x.between(1, 0), 0);
        CHECK.due("41 three, of which two are refused", x.build(0, 2, 3), 1);
        CHECK.due("41 the second", x.between(2, 3), 1);
        CHECK.due("41 none", x.build(0, 2, 0), 0);
        CHECK.due("41 none, wherever", x.build(0, -99, 0), 0);
        x.points(4);
        CHECK.due("41 a fourth has no place", x.build(0, 2, 4), -12);
        CHECK.due("41 what stood ahead came", x.count(1), 2);
        CHECK.due("41 from -1", x.build(0, -1, 1), -12);
        CHECK.due("41 from -4", x.build(0, -4, 3), -12);
        CHECK.due("41 one of the four", x.build(0, 11, 1), -12);
        CHECK.due("41 far off", x.build(0, Integer.MAX_VALUE, 15), -12);
        CHECK.due("41 far below", x.build(0, Integer.MIN_VALUE, 15), -12);
        CHECK.due("41 no more came", x.count(1), 2);
        CHECK.due("41 counts follow", x.counts(0, 1), 105);
        CHECK.due("41 n -1", x.build(0, 0, -1), -2);
        CHECK.due("41 n 16", x.build(0, 0, 16), -2);
        CHECK.due("41 s -1", x.build(-1, 0, 1), -2);
        CHECK.due("41 s 4", x.build(4, 0, 1), -2);
        for (int s = 1; s < 4; s++) {
            CHECK.due("41 none of ints", x.build(s, 0, 1), -13);
            CHECK.due("41 KIND ahead of PLACE", x.build(s, 99, 1), -13);
            CHECK.due("41 KIND, of none too", x.build(s, 0, 0), -13);
        }
        x.sheet(0, -1, 0);
        CHECK.due("41 missing", x.build(0, 0, 1), -11);
        CHECK.due("41 BAD ahead of missing", x.build(0, 0, 16), -2);
        x.sheet(0, 0, 60);
        x.points(12);
        for (int i = 0; i < 15; i++) {
            x.cell(0, 4 * i + 1, i);
            x.cell(0, 4 * i + 2, i < 11 ? i : i - 10);
            x.cell(0, 4 * i + 3, i < 11 ? i + 1 : i - 8);
        }
        CHECK.due("41 fifteen", x.build(0, 0, 15), 15);
        CHECK.due("41 the last one", x.told(14, 1), 14);
    }

    private static void promise42and43() {
        PairedLines x = new PairedLines();
        CHECK.due("43 none", x.back(), -3);
        x.points(5);
        x.line(1, 20, 0, 1);
        x.line(2, 30, 2, 1);
        x.tide(6);
        x.rack(0, 0, 1);
        x.lay(0, 0, 0);
        x.sheet(0, 0, 1);
        x.tree(0, 0);
        CHECK.due("42 image()", x.image(), 2);
        x.cell(0, 0, 77);
        x.tide(1);
        x.set(0, 1);
        x.turns(1, 0);
        x.drop(0);
        x.points(12);
        x.line(5, 3, 10, 11);
        x.tree(10, 0);
        x.rack(0, -1, 0);
        CHECK.due("43 counts of another net", x.counts(0, 1), 1);
        CHECK.due("43 back()", x.back(), 2);
        CHECK.due("43 POINTS", x.count(0), 5);
        CHECK.due("43 TIDE", x.count(2), 6);
        CHECK.due("43 KIND", x.told(0, 0), 1);
        CHECK.due("43 FIGURE", x.told(0, 1), 20);
        CHECK.due("43 KIND", x.told(1, 0), 2);
        CHECK.due("43 POINTS of a LINE", x.told(1, 3), 1);
        CHECK.due("43 POINTS of a LINE", x.told(1, 4), 2);
        CHECK.due("43 between", x.between(1, 2), 1);
        CHECK.due("43 near", x.near(1, 0), 5);
        CHECK.due("43 counts", x.counts(0, 1), 40 + 24);
        CHECK.due("43 THE TREE is not of it", x.node(0, 0), 10);
        CHECK.due("43 nor SHEETS", x.read(0, 0, 0), 77);
        CHECK.due("43 nor RACKS", x.of(0, 0), -11);
        x.set(0, 5);
        x.drop(1);
        CHECK.due("43 the same image again", x.back(), 2);
        CHECK.due("43 FIGURE again", x.told(0, 1), 20);
        x.points(0);
        CHECK.due("42 another image", x.image(), 0);
        x.points(3);
        CHECK.due("43 that one", x.back(), 0);
        CHECK.due("43 its POINTS", x.count(0), 0);
    }

    private static void promise44() {
        PairedLines x = Check.path(7);
        x.tide(8);
        x.tree(3, 0);
        CHECK.due("44 POINTS", x.count(0), 7);
        CHECK.due("44 LINES", x.count(1), 6);
        CHECK.due("44 TIDE", x.count(2), 8);
        CHECK.due("44 NODES", x.count(3), 7);
        CHECK.due("44 what -1", x.count(-1), -2);
        CHECK.due("44 what 4", x.count(4), -2);
    }
}
