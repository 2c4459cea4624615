/** Promises 27 to 30. */
final class PairingsEdges {
    private static final long BAD = Check.BAD;
    private static final long PLACE = Check.PLACE;

    private final Edges e;

    PairingsEdges(Edges e) {
        this.e = e;
    }

    void all() {
        isPairing();
        worth();
        listed();
        lot();
    }

    private void isPairing() {
        e.sentence(27, "Whether a set of LINES is a PAIRING: 1, 0.");
        e.takes("none", Edges::rich, x -> x.isPairing(0), 1);
        e.takes("the first", Edges::rich, x -> x.isPairing(1), 1);
        e.takes("the last", Edges::rich, x -> x.isPairing(32), 1);
        e.takes("two that meet", Edges::rich, x -> x.isPairing(48), 0);
        e.takes("three that don't", Edges::rich, x -> x.isPairing(42), 1);
        e.takes("all", Edges::rich, x -> x.isPairing(63), 0);
        e.takes("six", Edges::leastMuch, x -> x.isPairing(63), 1);
        e.takes("the first and the last of forty", Edges::forty, x -> x.isPairing(1L << 39 | 1), 1);
        e.takes("the last two of forty", Edges::forty, x -> x.isPairing(3L << 38), 0);
        e.takes("all forty", Edges::forty, x -> x.isPairing((1L << 40) - 1), 0);
        e.sentence(27, "BAD: a LINE that isn't there.");
        e.refuses("the next one", Edges::rich, x -> x.isPairing(64), Edges.BAD);
        e.refuses("the next one, and two that meet", Edges::rich, x -> x.isPairing(67), Edges.BAD);
        e.refuses("a 41st", Edges::forty, x -> x.isPairing(1L << 40), Edges.BAD);
        e.refuses("LINE 62", Edges::forty, x -> x.isPairing(1L << 62), Edges.BAD);
        e.refuses("LINE 63", Edges::forty, x -> x.isPairing(Long.MIN_VALUE), Edges.BAD);
        e.refuses("all bits", Edges::forty, x -> x.isPairing(-1), Edges.BAD);
        e.refuses("bit 32 isn't bit 0", Edges::rich, x -> x.isPairing(1L << 32), Edges.BAD);
        e.refuses("of no LINES", PairedLines::new, x -> x.isPairing(1), Edges.BAD);
    }

    private void worth() {
        e.sentence(28, "What a PAIRING is worth.");
        e.takes("none", Edges::rich, x -> x.worth(0), 1);
        e.takes("none, of no LINES", PairedLines::new, x -> x.worth(0), 1);
        e.takes("the last", Edges::rich, x -> x.worth(32), 7);
        e.takes("three", Edges::rich, x -> x.worth(42), 14 * 18 * 7);
        e.takes("the last of forty", Edges::forty, x -> x.worth(1L << 39), 1);
        e.takes("of WEIGHT 0", () -> Edges.apart(0), x -> x.worth(1), 0);
        e.sentence(28, "BAD: a LINE that isn't there;");
        e.refuses("the next one", Edges::rich, x -> x.worth(64), BAD);
        e.refuses("ahead of STATE", Edges::rich, x -> x.worth(67), BAD);
        e.refuses("ahead of MUCH", Edges::leastMuch, x -> x.worth(127), BAD);
        e.refuses("a 41st", Edges::forty, x -> x.worth(1L << 40), BAD);
        e.refuses("LINE 63", Edges::forty, x -> x.worth(Long.MIN_VALUE), BAD);
        e.refuses("bit 32 isn't bit 0", Edges::rich, x -> x.worth(1L << 32), BAD);
        e.refuses("of no LINES", PairedLines::new, x -> x.worth(1), BAD);
        e.sentence(28, "STATE: it is none;");
        e.refuses("two that meet", Edges::rich, x -> x.worth(3), Check.STATE);
        e.refuses("all", Edges::rich, x -> x.worth(63), Check.STATE);
        e.refuses("the last two of forty", Edges::forty, x -> x.worth(3L << 38), Check.STATE);
        e.refuses("all forty", Edges::forty, x -> x.worth((1L << 40) - 1), Check.STATE);
        e.sentence(28, "MUCH.");
        e.refuses("2 ^ 63", Edges::leastMuch, x -> x.worth(63), Check.MUCH);
        e.takes("just below", Edges::justNotMuch, x -> x.worth(63), 2047L << 52);
        e.takes("five of 2 ^ 63", Edges::leastMuch, x -> x.worth(62), 1L << 53);
        // 2 ^ 63 - 1 is 7 * 7 * 73 * 127 * 337 * 92737 * 649657, so that no WEIGHTS make it
        e.takes("9223 * 10 ^ 15", () -> Edges.apart(1000, 1000, 1000, 1000, 1000, 9223), x -> x.worth(63), 9223000000000000000L);
        e.refuses("9224 * 10 ^ 15", () -> Edges.apart(1000, 1000, 1000, 1000, 1000, 9224), x -> x.worth(63), Check.MUCH);
        e.takes("0, though five of them are MUCH", () -> Edges.apart(19998, 19998, 19998, 19998, 19998, 0), x -> x.worth(63), 0);
        e.refuses("those five", () -> Edges.apart(19998, 19998, 19998, 19998, 19998, 0), x -> x.worth(31), Check.MUCH);
    }

    private void listed() {
        e.sentence(29, "Of all PAIRINGS of size LINES (0 .. 6), as numbers in order, the one at place k;");
        long[][] due = {{0}, {1, 2, 4, 8, 16, 32}, {5, 9, 10, 17, 18, 20, 33, 34, 36, 40}, {21, 37, 41, 42}, {}, {}, {}};
        for (int s = 0; s < 7; s++) {
            int size = s;
            for (int i = 0; i < due[s].length; i++) {
                int k = i;
                e.takes("size " + s + " at " + i, Edges::rich, x -> x.listed(size, k), due[size][k]);
            }
        }
        e.takes("of six", Edges::leastMuch, x -> x.listed(6, 0), 63);
        e.takes("the last of forty", Edges::forty, x -> x.listed(1, 39), 1L << 39);
        e.takes("the first of none", PairedLines::new, x -> x.listed(0, 0), 0);
        PairedLines full = Edges.forty();
        for (int size = 1; size <= 4; size++) {
            long last = 0;
            int many = (int) full.listed(size, -1);
            for (int k = 0; k < many; k++) {
                long now = full.listed(size, k);
                e.holds("in order", now > last && Long.bitCount(now) == size && full.isPairing(now) == 1);
                last = now;
            }
        }
        e.sentence(29, "k -1: how many there are.");
        for (int s = 0; s < 7; s++) {
            int size = s;
            e.takes("of size " + s, Edges::rich, x -> x.listed(size, -1), due[s].length);
            e.takes("of size " + s + ", no LINES", PairedLines::new, x -> x.listed(size, -1), size == 0 ? 1 : 0);
        }
        e.takes("of six", Edges::leastMuch, x -> x.listed(6, -1), 1);
        e.takes("of WEIGHT 0 too", () -> Edges.apart(0, 0), x -> x.listed(2, -1), 1);
        e.sentence(29, "BAD: size;");
        e.range("size", Edges::rich, (x, size) -> x.listed(size, -1), 0, 1, 6, 0, BAD);
        e.refuses("ahead of PLACE: -2", Edges::rich, x -> x.listed(7, -2), BAD);
        e.refuses("ahead of PLACE: far off", Edges::rich, x -> x.listed(-1, 9999), BAD);
        e.sentence(29, "PLACE: another k.");
        for (int s = 0; s < 7; s++) {
            int size = s;
            e.beyond("of size " + s, Edges::rich, (x, k) -> x.listed(size, k), -1, due[size].length - 1, PLACE);
        }
        e.refuses("forty", Edges::forty, x -> x.listed(1, 40), PLACE);
        e.refuses("of none, no LINES", PairedLines::new, x -> x.listed(0, 1), PLACE);
    }

    /** The first seed from 0 on whose DRAW leaves this by 10. */
    private static int seedFor(int rest) {
        int seed = 0;
        while ((seed * 1103515245 + 12345 >>> 8) % 10 != rest) {
            seed++;
        }
        return seed;
    }

    private void lot() {
        e.sentence(30, "LINES by numbers come to a PAIRING, each that may (it meets none of it) by a DRAW of seed if that % 10 is less than odds");
        for (int r = 0; r < 10; r++) {
            int rest = r;
            e.takes(r + " is not less than " + r, () -> Edges.apart(1), x -> x.lot(seedFor(rest), rest), 0);
            e.takes(r + " is less than " + (r + 1), () -> Edges.apart(1), x -> x.lot(seedFor(rest), rest + 1), 1);
        }
        e.takes("all that may", Edges::rich, x -> x.lot(7, 10), 21);
        e.takes("all of six", Edges::leastMuch, x -> x.lot(-7, 10), 63);
        e.takes("no LINES", PairedLines::new, x -> x.lot(1, 10), 0);
        e.sentence(30, "(0 .. 10; no DRAW for others):");
        e.range("odds", Edges::rich, (x, odds) -> x.lot(3, odds), 0, 0, 10, 21, BAD);
        for (int seed : new int[] {0, 1, -1, 5, 77, 4711, Integer.MAX_VALUE, Integer.MIN_VALUE}) {
            for (int odds = 0; odds <= 10; odds++) {
                int o = odds;
                e.takes("lot(" + seed + ", " + odds + ")", Edges::rich, x -> x.lot(seed, o), drawn(seed, o));
            }
        }
        e.sentence(30, "the set.");
        e.takes("the last of forty comes", PairingsEdges::lastApart, x -> x.lot(1, 10), 1L << 39 | 1L << 38 | 1L << 21 | 1);
        e.sentence(30, "BAD.");
        e.beyond("odds of no LINES", PairedLines::new, (x, odds) -> x.lot(3, odds), 0, 10, BAD);
    }

    /** Forty LINES: LINE 0 is that of 0 and 1, behind it stand all that meet it; so does LINE 21 of 2 and 3; LINES 38 and 39 meet neither. */
    private static PairedLines lastApart() {
        PairedLines x = new PairedLines();
        x.points(12);
        for (int a = 0; a < 4; a += 2) {
            x.line(0, 1, a, a + 1);
            for (int b = a + 2; b < 12; b++) {
                x.line(0, 1, a, b);
                x.line(0, 1, a + 1, b);
            }
        }
        x.line(0, 1, 4, 5);
        x.line(0, 1, 6, 7);
        return x;
    }

    /** On a way a LINE meets the one before it, and no other. */
    private static long drawn(int seed, int odds) {
        int z = seed;
        long set = 0;
        for (int i = 0; i < 6; i++) {
            if (i == 0 || (set >> i - 1 & 1) == 0) {
                z = z * 1103515245 + 12345;
                set |= (z >>> 8) % 10 < odds ? 1L << i : 0;
            }
        }
        return set;
    }
}
