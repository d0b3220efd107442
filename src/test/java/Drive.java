/**
 * Brings a cache to where a test wants it. The filler is one key that is put over and
 * over with eight words: two of it fill a page, and only the newest is in the index,
 * never in the segment that is emptied.
 */
final class Drive {
    static final long FILLER = Keys.ofSet(63);

    private Drive() {
    }

    /** A value of n words: v, v + 1, and so on. */
    static void put(TinyCache x, long key, int n, int v) {
        for (int i = 0; i < n; i++) {
            x.word(i, v + i);
        }
        x.put(key, n);
    }

    static void fill(TinyCache x, int times) {
        for (int i = 0; i < times; i++) {
            x.put(FILLER, 8);
        }
    }

    /** Puts the filler until so many segments were written whole, and stops there. */
    static void fillSegments(TinyCache x, int segments) {
        while (x.count(0) < segments) {
            x.put(FILLER, 8);
        }
    }

    /** A cache whose page of the set has these keys, in this order, with n words each. */
    static TinyCache withSetPage(int n, long... keys) {
        TinyCache x = new TinyCache();
        for (long key : keys) {
            put(x, key, n, (int) key * 10);
        }
        // The first segment is emptied while the ninth is written.
        fillSegments(x, 9);
        return x;
    }
}
