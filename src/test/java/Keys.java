import java.math.BigInteger;
import java.util.HashMap;
import java.util.Map;

/** Keys with sets and bits that a test asks for, by a mixing of the tests' own. */
final class Keys {
    private static final BigInteger SIZE = BigInteger.ONE.shiftLeft(64);
    // Tests ask for the same keys over and over, and this mixing is slow.
    private static final Map<Long, BigInteger> MIXED = new HashMap<>();

    private Keys() {
    }

    static BigInteger mixed(long key) {
        return MIXED.computeIfAbsent(key, Keys::mix);
    }

    private static BigInteger mix(long key) {
        BigInteger z = BigInteger.valueOf(key).mod(SIZE);
        z = z.xor(z.shiftRight(30)).multiply(BigInteger.valueOf(-4658895280553007687L)).mod(SIZE);
        z = z.xor(z.shiftRight(27)).multiply(BigInteger.valueOf(-7723592293110705685L)).mod(SIZE);
        return z.xor(z.shiftRight(31));
    }

    static int set(long key) {
        return mixed(key).shiftRight(58).intValueExact();
    }

    static int bit(long key) {
        return mixed(key).mod(BigInteger.valueOf(64)).intValueExact();
    }

    /** The first n keys from 1 on that are in the set and have bits of their own. */
    static long[] ofSet(int set, int n) {
        long[] keys = new long[n];
        long bits = 0;
        int have = 0;
        for (long key = 1; have < n; key++) {
            if (set(key) == set && (bits >>> bit(key) & 1) == 0) {
                bits |= 1L << bit(key);
                keys[have] = key;
                have++;
            }
        }
        return keys;
    }

    static long ofSet(int set) {
        return ofSet(set, 1)[0];
    }

    /** The first n keys from 1 on that are in the set, whatever their bits. */
    static long[] manyOfSet(int set, int n) {
        long[] keys = new long[n];
        int have = 0;
        for (long key = 1; have < n; key++) {
            if (set(key) == set) {
                keys[have] = key;
                have++;
            }
        }
        return keys;
    }

    /** One key of each set from the first to the last, in their order. */
    static long[] ofSets(int first, int last) {
        long[] keys = new long[last - first + 1];
        for (int set = first; set <= last; set++) {
            keys[set - first] = ofSet(set);
        }
        return keys;
    }

    /** The first key from 1 on with this set and this bit. */
    static long ofSetAndBit(int set, int bit) {
        return nextLike(0, set, bit);
    }

    /** Another key with the same set and the same bit. */
    static long twin(long key) {
        return nextLike(key, set(key), bit(key));
    }

    private static long nextLike(long behind, int set, int bit) {
        long key = behind + 1;
        while (set(key) != set || bit(key) != bit) {
            key++;
        }
        return key;
    }
}
