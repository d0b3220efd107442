import java.math.BigInteger;

/** Keys with sets and bits that a test asks for, by a mixing of the tests' own. */
final class Keys {
    private static final BigInteger SIZE = BigInteger.ONE.shiftLeft(64);

    private Keys() {
    }

    static BigInteger mix(long key) {
        BigInteger z = BigInteger.valueOf(key).mod(SIZE);
        z = z.xor(z.shiftRight(30)).multiply(BigInteger.valueOf(-4658895280553007687L)).mod(SIZE);
        z = z.xor(z.shiftRight(27)).multiply(BigInteger.valueOf(-7723592293110705685L)).mod(SIZE);
        return z.xor(z.shiftRight(31));
    }

    static int set(long key) {
        return mix(key).shiftRight(58).intValueExact();
    }

    static int bit(long key) {
        return mix(key).mod(BigInteger.valueOf(64)).intValueExact();
    }

    /** The first n keys from 1 on that are in the set and have bits of their own. */
    static long[] ofSet(int set, int n) {
        long[] keys = new long[n];
        long bits = 0;
        int have = 0;
        for (long key = 1; have < n; key++) {
            if (set(key) == set && (bits >>> bit(key) & 1) == 0) {
                bits |= 1L << bit(key);
                keys[have] = key;
                have++;
            }
        }
        return keys;
    }

    static long ofSet(int set) {
        return ofSet(set, 1)[0];
    }

    /** Another key with the same set and the same bit. */
    static long twin(long key) {
        long other = key + 1;
        while (set(other) != set(key) || bit(other) != bit(key)) {
            other++;
        }
        return other;
    }
}
