import java.math.BigInteger;
import java.util.Arrays;

/** COUNTS, TERMS and their sums, by big numbers, of a net whose LINES do not meet. */
final class Apart {
    private final BigInteger[] terms = new BigInteger[7];

    Apart(int rate, int... weights) {
        Arrays.fill(terms, BigInteger.ZERO);
        terms[0] = BigInteger.ONE;
        for (int w : weights) {
            for (int k = 6; k > 0; k--) {
                terms[k] = terms[k].add(terms[k - 1].multiply(BigInteger.valueOf((long) rate * w)));
            }
        }
    }

    /** All TERMS, each k as many times as power tells: 0 SUM, 1 B, 2 A. */
    BigInteger all(int power) {
        BigInteger all = BigInteger.ZERO;
        for (int k = 0; k < 7; k++) {
            all = all.add(terms[k].multiply(BigInteger.valueOf(k).pow(power)));
        }
        return all;
    }

    BigInteger term(int k) {
        return terms[k];
    }

    static boolean fits(BigInteger n) {
        return n.bitLength() <= 63;
    }

    static long above(BigInteger above, BigInteger below) {
        return above.divide(above.gcd(below)).longValueExact();
    }
}
