/** Promises 27 to 30: pairings. */
public final class PairingsTest {
    private static final Check CHECK = new Check("PairingsTest");

    public static void main(String[] args) {
        promise27();
        promise28();
        promise29();
        promise30();
        CHECK.end();
    }

    private static void promise27() {
        PairedLines x = Check.path(5);
        int[] due = {1, 1, 1, 0, 1, 1, 0, 0, 1, 1, 1, 0, 0, 0, 0, 0};
        for (int lines = 0; lines < 16; lines++) {
            CHECK.due("27 isPairing(" + lines + ")", x.isPairing(lines), due[lines]);
        }
        CHECK.due("27 LINE 4", x.isPairing(16), -2);
        CHECK.due("27 LINE 4, of what is none", x.isPairing(19), -2);
        CHECK.due("27 LINE 63", x.isPairing(Long.MIN_VALUE), -2);
        CHECK.due("27 all bits", x.isPairing(-1), -2);
        PairedLines full = forty();
        CHECK.due("27 LINE 39", full.isPairing(1L << 39), 1);
        CHECK.due("27 LINE 40", full.isPairing(1L << 40), -2);
        CHECK.due("27 LINES 0 and 39 meet not", full.isPairing(1L << 39 | 1), 1);
        CHECK.due("27 LINES 38 and 39 meet", full.isPairing(3L << 38), 0);
    }

    /** LINES by POINTS from 0 on; LINE 39 is that of 4 and 6. */
    private static PairedLines forty() {
        return Check.whole(12, 0, 1);
    }

    private static void promise28() {
        PairedLines x = Check.path(5);
        CHECK.due("28 none", x.worth(0), 1);
        CHECK.due("28 one", x.worth(8), 4);
        CHECK.due("28 two", x.worth(10), 8);
        CHECK.due("28 they meet", x.worth(3), Check.STATE);
        CHECK.due("28 no such LINE", x.worth(16), Check.BAD);
        CHECK.due("28 no such LINE, ahead of STATE", x.worth(19), Check.BAD);
        CHECK.due("28 LINE 63", x.worth(Long.MIN_VALUE), Check.BAD);
        x.turns(1, 3);
        x.tide(7);
        CHECK.due("28 WEIGHTS of now", x.worth(10), 44);
        PairedLines six = Check.apart(6, 0, 1000);
        CHECK.due("28 six", six.worth(63), 1000000000000000000L);
        six.set(5, 9223);
        CHECK.due("28 within", six.worth(63), 9223000000000000000L);
        six.set(5, 9224);
        CHECK.due("28 MUCH", six.worth(63), Check.MUCH);
        CHECK.due("28 five of them are not", six.worth(62), 9224L * 1000 * 1000 * 1000 * 1000);
        PairedLines zero = Check.apart(6, 1, 9999);
        CHECK.due("28 MUCH by five", zero.worth(31), Check.MUCH);
        zero.set(5, 0);
        CHECK.due("28 0 is a number of 64 bits", zero.worth(63), 0);
    }

    private static void promise29() {
        PairedLines x = Check.path(5);
        CHECK.due("29 of none", x.listed(0, -1), 1);
        CHECK.due("29 of none, the one", x.listed(0, 0), 0);
        CHECK.due("29 of none, no other", x.listed(0, 1), Check.PLACE);
        long[][] due = {{0}, {1, 2, 4, 8}, {5, 9, 10}, {}};
        for (int size = 0; size < due.length; size++) {
            CHECK.due("29 how many of " + size, x.listed(size, -1), due[size].length);
            for (int k = 0; k < due[size].length; k++) {
                CHECK.due("29 listed(" + size + ", " + k + ")", x.listed(size, k), due[size][k]);
            }
            CHECK.due("29 behind the last", x.listed(size, due[size].length), Check.PLACE);
        }
        CHECK.due("29 k -2", x.listed(1, -2), Check.PLACE);
        CHECK.due("29 k far off", x.listed(1, Integer.MAX_VALUE), Check.PLACE);
        CHECK.due("29 k far below", x.listed(1, Integer.MIN_VALUE), Check.PLACE);
        CHECK.due("29 size -1", x.listed(-1, 0), Check.BAD);
        CHECK.due("29 size 7", x.listed(7, 0), Check.BAD);
        CHECK.due("29 size 7, ahead of PLACE", x.listed(7, -2), Check.BAD);
        wholeListIsInOrder(forty());
        wholeListIsInOrder(Check.whole(8, 0, 0));
    }

    private static void wholeListIsInOrder(PairedLines x) {
        for (int size = 0; size < 7; size++) {
            long many = x.listed(size, -1);
            long last = -1;
            // some of them suffice where there are many
            for (int k = 0; k < many; k += many > 200 ? 37 : 1) {
                long now = x.listed(size, k);
                CHECK.holds("29 in order", now > last);
                CHECK.due("29 a PAIRING", x.isPairing(now), 1);
                CHECK.due("29 of its size", Long.bitCount(now), size);
                last = now;
            }
            CHECK.due("29 no more", x.listed(size, (int) many), Check.PLACE);
        }
    }

    private static void promise30() {
        PairedLines x = forty();
        CHECK.due("30 odds -1", x.lot(1, -1), Check.BAD);
        CHECK.due("30 odds 11", x.lot(1, 11), Check.BAD);
        CHECK.due("30 odds 0", x.lot(77, 0), 0);
        int[] seeds = {0, 1, -1, 12345, Integer.MAX_VALUE, Integer.MIN_VALUE, 987654321};
        for (int seed : seeds) {
            for (int odds = 0; odds <= 10; odds++) {
                CHECK.due("30 lot(" + seed + ", " + odds + ")", x.lot(seed, odds), drawn(x, seed, odds));
            }
        }
        CHECK.due("30 no LINES", new PairedLines().lot(1, 10), 0);
    }

    private static long drawn(PairedLines x, int seed, int odds) {
        int z = seed;
        long found = 0;
        for (int i = 0; i < x.count(1); i++) {
            if (x.isPairing(found | 1L << i) == 1) {
                z = z * 1103515245 + 12345;
                found |= (z >>> 8) % 10 < odds ? 1L << i : 0;
            }
        }
        return found;
    }
}
