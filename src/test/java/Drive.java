/**
 * Brings a cache to where a test wants it. The filler is one key that is put over and
 * over with eight words: two of it fill a page, and only the newest is in the index,
 * never in the segment that is emptied.
 */
final class Drive {
    static final long FILLER = Keys.ofSet(63);
    /** The thirteen counts behind everything(). */
    static final int[] EVERYTHING = {16, 3, 1, 1, 7, 1, 1, 1, 3, 7, 1, 1, 11};

    private Drive() {
    }

    /** A value of n words: v, v + 1, and so on. */
    static void put(Face x, long key, int n, int v) {
        for (int i = 0; i < n; i++) {
            x.word(i, v + i);
        }
        x.put(key, n);
    }

    /** Puts of these keys, in this order, of the words that the buffer has. */
    static void putAll(Face x, int n, long... keys) {
        for (long key : keys) {
            x.put(key, n);
        }
    }

    static void getAll(Face x, long... keys) {
        for (long key : keys) {
            x.get(key);
        }
    }

    static void fill(Face x, int times) {
        for (int i = 0; i < times; i++) {
            x.put(FILLER, 8);
        }
    }

    /** Puts the filler until so many segments were written whole, and stops there. */
    static void fillSegments(Face x, int segments) {
        // Four fillers are half a segment: far from the end it need not be asked each time.
        while (x.count(0) < segments - 2) {
            fill(x, 4);
        }
        while (x.count(0) < segments) {
            fill(x, 1);
        }
    }

    /** A cache whose page of the set has these keys, in this order, with n words each. */
    static Counted withSetPage(int n, long... keys) {
        Counted x = new Counted();
        for (long key : keys) {
            put(x, key, n, (int) key * 10);
        }
        // The first segment is emptied while the ninth is written.
        fillSegments(x, 9);
        return x;
    }

    /**
     * A run in which every count comes to more than 0: what is put first is in the log's
     * first segment, and this is emptied twice.
     */
    static void everything(Face x) {
        long[] a = Keys.ofSet(1, 5);
        long[] b = Keys.ofSet(2, 2);
        long liked = Keys.ofSet(3);
        putAll(x, 8, a[0], a[1], b[0], b[1], liked, Keys.ofSet(4));
        fill(x, 2);
        x.get(liked);
        fill(x, 59);
        // Sets 1 and 2 were moved, set 3's object was put anew, set 4's was dropped.
        x.get(a[0]);
        x.delete(b[1]);
        putAll(x, 8, a[2], a[3], a[4], b[0]);
        fill(x, 59);
    }
}
