/** Promises 31 to 33: racks. */
public final class RacksTest {
    private static final Check CHECK = new Check("RacksTest");

    public static void main(String[] args) {
        promise31();
        promise32();
        promise33();
        CHECK.end();
    }

    /** LINE k is of KIND k, all of FIGURE 7. */
    private static PairedLines sixKinds() {
        PairedLines x = new PairedLines();
        x.points(7);
        for (int kind = 0; kind < 6; kind++) {
            x.line(kind, 7, kind, kind + 1);
        }
        return x;
    }

    private static void promise31() {
        PairedLines x = sixKinds();
        CHECK.due("31 r -1", x.rack(-1, 0, 1), -2);
        CHECK.due("31 r 3", x.rack(3, 0, 1), -2);
        CHECK.due("31 kind -2", x.rack(0, -2, 1), -2);
        CHECK.due("31 kind 6", x.rack(0, 6, 1), -2);
        CHECK.due("31 n 21", x.rack(0, 0, 21), -2);
        CHECK.due("31 n -1", x.rack(0, 0, -1), -14);
        CHECK.due("31 n -1, but BAD", x.rack(0, 6, -1), -2);
        CHECK.due("31 refused: missing still", x.of(0, 0), -11);
        CHECK.due("31 n 20", x.rack(0, 0, 20), 1);
        CHECK.due("31 last place", x.of(0, 19), -3);
        CHECK.due("31 behind it", x.of(0, 20), -12);
        x.lay(0, 19, 1);
        CHECK.due("31 refused: it stays", x.rack(0, 0, -5), -14);
        CHECK.due("31 what lies there too", x.of(0, 19), 14);
        CHECK.due("31 anew", x.rack(0, 0, 20), 1);
        CHECK.due("31 all empty", x.of(0, 19), -3);
        CHECK.due("31 no places", x.rack(1, 5, 0), 1);
        CHECK.due("31 none there", x.of(1, 0), -12);
        CHECK.due("31 missing, n 99", x.rack(1, -1, 99), 1);
        CHECK.due("31 missing, n -99", x.rack(0, -1, -99), 1);
        CHECK.due("31 it is", x.of(0, 0), -11);
        CHECK.due("31 it is", x.of(1, 0), -11);
        CHECK.due("31 missing, r 3", x.rack(3, -1, 0), -2);
    }

    private static void promise32() {
        PairedLines x = sixKinds();
        boolean[][] under = {
            {true, true, true, true, true, true}, {false, true, false, true, false, false}, {false, false, true, false, true, false},
            {false, false, false, true, false, false}, {false, false, false, false, true, false}, {false, false, false, false, false, true}};
        for (int top = 0; top < 6; top++) {
            x.rack(2, top, 6);
            for (int kind = 0; kind < 6; kind++) {
                CHECK.due("32 lay " + kind + " under " + top, x.lay(2, kind, kind), under[top][kind] ? kind : -13);
                CHECK.due("32 whether it lies there", x.of(2, kind), under[top][kind] ? x.told(kind, 2) : -3);
            }
        }
        x.rack(0, 1, 2);
        CHECK.due("32 r -1", x.lay(-1, 0, 1), -2);
        CHECK.due("32 r 3", x.lay(3, 0, 1), -2);
        CHECK.due("32 line -1", x.lay(0, 0, -1), -2);
        CHECK.due("32 line 6", x.lay(0, 0, 6), -2);
        CHECK.due("32 missing", x.lay(1, 0, 1), -11);
        CHECK.due("32 BAD ahead of missing", x.lay(1, 0, 6), -2);
        CHECK.due("32 missing ahead of PLACE", x.lay(1, 99, 1), -11);
        CHECK.due("32 i -1", x.lay(0, -1, 1), -12);
        CHECK.due("32 i 2", x.lay(0, 2, 1), -12);
        CHECK.due("32 PLACE ahead of KIND", x.lay(0, 2, 0), -12);
        CHECK.due("32 KIND", x.lay(0, 1, 0), -13);
        CHECK.due("32 last place", x.lay(0, 1, 1), 1);
        CHECK.due("32 over it", x.lay(0, 1, 3), 3);
        CHECK.due("32 refused over it", x.lay(0, 1, 2), -13);
        x.tide(3);
        CHECK.due("32 it stays", x.of(0, 1), 17);
    }

    private static void promise33() {
        PairedLines x = sixKinds();
        x.rack(0, 2, 3);
        x.lay(0, 0, 2);
        x.lay(0, 2, 4);
        CHECK.due("33 as it came", x.of(0, 0), 7);
        x.tide(4);
        CHECK.due("33 by the TIDE of now", x.of(0, 0), 3);
        CHECK.due("33 THIN", x.of(0, 2), 1);
        x.set(2, 100);
        x.turns(2, 0);
        CHECK.due("33 for good", x.of(0, 0), 3);
        x.drop(2);
        x.points(0);
        CHECK.due("33 even as the net goes", x.of(0, 0), 3);
        x.tide(0);
        CHECK.due("33 and back", x.of(0, 0), 7);
        CHECK.due("33 empty", x.of(0, 1), -3);
        CHECK.due("33 i -1", x.of(0, -1), -12);
        CHECK.due("33 i 3", x.of(0, 3), -12);
        CHECK.due("33 r -1", x.of(-1, 0), -2);
        CHECK.due("33 r 3", x.of(3, 0), -2);
        CHECK.due("33 missing", x.of(1, 99), -11);
    }
}
