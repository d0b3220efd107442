/** A set's filter has the bits of the keys in its page, and a page is read only for these. */
public final class FilterTest {
    private static final int BITS = 64;

    public static void main(String[] args) {
        // The sets with the smallest and the largest numbers, and those where the sign turns.
        for (int set : new int[] {0, 31, 32, 63}) {
            everyBit(set);
        }
        otherSetsHaveOtherFilters();
        lostWithTheLastKeyOfIt();
        newestInTheLogAloneIsNotInIt();
        Check.end();
    }

    /** A page of the set with two keys; the filler is of another set. */
    private static Counted withTwo(int set, long one, long other) {
        long filler = Keys.ofSet((set + 7) % 64);
        Counted x = new Counted();
        Drive.putAll(x, 8, one, other);
        for (int i = 0; i < 65; i++) {
            x.put(filler, 8);
        }
        return x;
    }

    private static void everyBit(int set) {
        long[] present = new long[BITS];
        long[] absent = new long[BITS];
        for (int bit = 0; bit < BITS; bit++) {
            present[bit] = Keys.ofSetAndBit(set, bit);
            absent[bit] = Keys.twin(present[bit]);
        }
        for (int bit = 0; bit < BITS; bit++) {
            onlyItsBits(set, present, absent, bit, (bit + 5) % BITS);
        }
    }

    private static void onlyItsBits(int set, long[] present, long[] absent, int one, int other) {
        Counted x = withTwo(set, present[one], present[other]);
        int read = x.count(9);
        for (int bit = 0; bit < BITS; bit++) {
            String what = "set " + set + ", bits " + one + " and " + other + ", a key with bit " + bit;
            Check.due(what + ": get", x.get(absent[bit]), 0);
            Check.due(what + ": delete", x.delete(absent[bit]), false);
            read += bit == one || bit == other ? 2 : 0;
            Check.due(what + ": pages read", x.count(9), read);
        }
        Check.due("nothing is written for that", x.count(3), 0);
    }

    private static void otherSetsHaveOtherFilters() {
        Counted x = withTwo(20, Keys.ofSetAndBit(20, 3), Keys.ofSetAndBit(20, 4));
        int read = x.count(9);
        for (int set = 0; set < 64; set++) {
            x.get(Keys.twin(Keys.ofSetAndBit(set, 3)));
            read += set == 20 ? 1 : 0;
            Check.due("bit 3 in set " + set, x.count(9), read);
        }
    }

    private static void lostWithTheLastKeyOfIt() {
        long one = Keys.ofSetAndBit(20, 3);
        long twin = Keys.twin(one);
        Counted x = withTwo(20, one, twin);
        Check.due("one of two", x.delete(one), true);
        int read = x.count(9);
        Check.due("gone", x.get(one), 0);
        Check.due("the other has the bit", x.count(9), read + 1);
        Check.due("the other", x.delete(twin), true);
        Check.due("gone", x.get(one), 0);
        Check.due("gone", x.delete(twin), false);
        Check.due("no bit is left", x.count(9), read + 2);
    }

    private static void newestInTheLogAloneIsNotInIt() {
        Counted x = withTwo(20, Keys.ofSetAndBit(20, 3), Keys.ofSetAndBit(20, 4));
        long key = Keys.ofSetAndBit(20, 5);
        x.put(key, 1);
        int read = x.count(9);
        Check.due("of the log", x.delete(key), true);
        Check.due("the page has no such bit", x.count(9), read);
    }
}
