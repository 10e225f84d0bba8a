import java.math.BigInteger;

/** Seeds for simulate, reckoned with numbers that do not overflow. */
final class Seeds {
    private static final BigInteger TIMES = new BigInteger("6364136223846793005");
    private static final BigInteger PLUS = new BigInteger("1442695040888963407");
    private static final BigInteger ROUND = BigInteger.ONE.shiftLeft(64);

    private Seeds() { }

    /** The seed whose first x, as a number without a sign, is this one. */
    static long before(BigInteger x) {
        return x.subtract(PLUS).multiply(TIMES.modInverse(ROUND)).mod(ROUND).longValue();
    }

    /** A seed whose first r is this one, 0 to 2147483647. */
    static long before(long r) {
        return before(BigInteger.valueOf(r).shiftLeft(33));
    }

    /** A seed whose first step pitches a tent of this size, 1 to 20. */
    static long pitching(int size, int step) {
        long power = Long.numberOfTrailingZeros(step);
        // r / 8 is size - 1 by 20, and by 128 it has the power in its bits of 32.
        for (long r = 4; ; r += 8) {
            if (r / 8 % 20 == size - 1 && r / 256 % 4 == power) {
                return before(r);
            }
        }
    }

    /** The first r of these steps. */
    static int[] steps(long seed, int m) {
        int[] rs = new int[m];
        BigInteger x = BigInteger.valueOf(seed).mod(ROUND);
        for (int i = 0; i < m; i++) {
            x = x.multiply(TIMES).add(PLUS).mod(ROUND);
            rs[i] = x.shiftRight(33).intValueExact();
        }
        return rs;
    }

    /** The smallest seed, from 0, whose first steps are of these kinds: e, l, j (to any frame) or p (any tent). */
    static long doing(String kinds) {
        for (long seed = 0; ; seed++) {
            int[] rs = steps(seed, kinds.length());
            boolean same = true;
            for (int i = 0; i < rs.length && same; i++) {
                same = "eeljpppp".charAt(rs[i] % 8) == kinds.charAt(i);
            }
            if (same) {
                return seed;
            }
        }
    }
}
