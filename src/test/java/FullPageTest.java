/** The open page: 32 words at most, and what becomes of an object that does not fit in. */
public final class FullPageTest {
    public static void main(String[] args) {
        for (int words = 0; words <= 32; words++) {
            for (int n = 1; n <= 8; n++) {
                fitsOrNot(words, n);
            }
        }
        fullPageIsWrittenWithTheNext();
        // Two put anew of 8 words have 22 words; the third has 3 words more than its value.
        oneWordBehindPutAnew(3, 32);
        oneWordBehindPutAnew(4, 4);
        oneWordBehindPutAnew(7, 4);
        thirdPutAnewDoesNotFit();
        oneThatFitsBehindPutAnew();
        segmentAfterSegment();
        onceAroundTheLog();
        Check.end();
    }

    /** Brings so many words into the open page, if there are objects of so many in all. */
    private static boolean bring(Face x, int words) {
        int left = words;
        long key = 1000;
        while (left > 0) {
            int size = left <= 11 ? left : left - 11 < 4 ? left - 4 : 11;
            if (size < 4) {
                return false;
            }
            x.put(key, size - 3);
            key++;
            left -= size;
        }
        return true;
    }

    private static void fitsOrNot(int words, int n) {
        Counted x = new Counted();
        if (!bring(x, words)) {
            Check.due("only one, two and three words are of no object", words < 4, true);
            return;
        }
        String what = n + " behind " + words + " words";
        Check.due(what + ": before", x.count(12), words);
        x.put(1, n);
        boolean fits = words + 3 + n <= 32;
        Check.due(what, x.count(12), fits ? words + 3 + n : 3 + n);
        Check.due(what + ": the page is written or not", x.flash(64, 0) != 0, !fits);
        Check.due(what + ": where", x.where(1), 1);
        Check.due(what + ": length", x.get(1), n);
        Check.due(what + ": it is in the open page", x.count(9), 0);
        Check.due(what + ": the next page is not written", x.flash(65, 0), 0);
    }

    private static void fullPageIsWrittenWithTheNext() {
        Counted x = new Counted();
        for (int k = 1; k <= 8; k++) {
            Drive.put(x, k, 1, k);
        }
        Check.due("32 words are open", x.count(12), 32);
        Check.page("not written yet", x, 64);
        Drive.put(x, 9, 1, 9);
        Check.due("an empty page was open", x.count(12), 4);
        Check.page("written", x, 64, 1, 0, 1, 1, 1, 0, 2, 2, 1, 0, 3, 3, 1, 0, 4, 4,
                1, 0, 5, 5, 1, 0, 6, 6, 1, 0, 7, 7, 1, 0, 8, 8);
        Check.page("the next is not", x, 65);
        Check.due("all are in the index", x.count(11), 9);
    }

    /** The log is full, and its first segment has three objects that were got, the third of n words. */
    private static Counted withThreeGot(int n) {
        long[] keys = Keys.ofSets(0, 2);
        Counted x = new Counted();
        Drive.putAll(x, 8, keys[0], keys[1]);
        x.put(keys[2], n);
        Drive.getAll(x, keys);
        Drive.fillSegments(x, 8);
        Drive.fill(x, 1);
        x.put(Drive.FILLER, 7);
        Check.due("nothing is emptied yet", x.count(10), 0);
        Check.due("the open page is full", x.count(12), 32);
        return x;
    }

    private static void oneWordBehindPutAnew(int third, int words) {
        String what = "1 behind 8, 8, " + third + " put anew";
        Counted x = withThreeGot(third);
        int before = x.flash(65, 2);
        x.put(999, 8);
        Check.due(what + ": 8 never fits", x.count(12), 11);
        Counted y = withThreeGot(third);
        y.put(999, 1);
        Check.due(what, y.count(12), words);
        Check.due(what + ": put anew", y.count(10), 3);
        boolean written = words < 22;
        Check.due(what + ": their page is written or not", y.flash(65, 2), written ? (int) Keys.ofSet(0) : before);
        Check.due(what + ": the third is in it", y.flash(65, 22), written ? third : 0);
        Check.due(what + ": the page behind is as it was", y.flash(66, 2), (int) Drive.FILLER);
        Check.due(what + ": no segment more", y.count(0), 8);
    }

    // 33 words: the third comes into a page of its own, and there the filler fits in.
    private static void thirdPutAnewDoesNotFit() {
        Counted x = withThreeGot(8);
        Drive.fill(x, 1);
        Check.due("the third and the filler", x.count(12), 22);
        Check.due("the first is on flash", x.flash(65, 2), (int) Keys.ofSet(0));
        Check.due("the second is on flash", x.flash(65, 13), (int) Keys.ofSet(1));
        Check.due("nothing behind it", x.flash(65, 22), 0);
        Check.due("put anew", x.count(10), 3);
    }

    private static void oneThatFitsBehindPutAnew() {
        long key = Keys.ofSet(0);
        Counted x = new Counted();
        x.put(key, 8);
        x.get(key);
        Drive.fill(x, 65);
        Drive.putAll(x, 8, 998);
        Check.due("put anew and behind it the new one", x.count(12), 22);
        Drive.putAll(x, 7, 999);
        Check.due("32 words", x.count(12), 32);
        Check.due("all of them are objects", x.count(11), 4);
    }

    // Seven segments have eight objects each that were got, the eighth has no object any more:
    // one put goes through all of them before it finds room.
    private static void segmentAfterSegment() {
        long[] keys = Keys.ofSets(0, 55);
        Counted x = new Counted();
        Drive.putAll(x, 8, keys);
        Drive.getAll(x, keys);
        Drive.fill(x, 10);
        Check.due("the log is full", x.count(0), 8);
        Check.due("nothing emptied", x.count(10), 0);
        x.put(keys[0] + (1L << 32), 8);
        Check.due("all are put anew", x.count(10), 56);
        Check.due("none was dropped", x.count(8), 0);
        Check.due("seven segments more", x.count(0), 15);
        Check.due("it alone is in the open page", x.count(12), 11);
        Check.due("the old ones, the filler and it", x.count(11), 58);
        Check.due("the last two are in the eighth segment's first page", x.flash(92, 2), (int) keys[54]);
        Check.due("the last two are in the eighth segment's first page", x.flash(92, 13), (int) keys[55]);
    }

    // All eight segments are full of objects that were got: behind the eighth the first one
    // comes again, and what was put anew there was not got since, so it goes at last.
    private static void onceAroundTheLog() {
        long[] keys = Keys.ofSets(0, 63);
        Counted x = new Counted();
        Drive.putAll(x, 8, keys);
        Drive.getAll(x, keys);
        for (long key = 1L << 40; key <= (1L << 40) + 1; key++) {
            x.put(key, 8);
            x.delete(key);
        }
        Check.counts("the log is full", x, 8, 0, 0, 0, 0, 0, 0, 0, 0, 62, 0, 64, 22);
        x.put(1L << 41, 8);
        Check.counts("once around", x, 16, 0, 0, 0, 0, 0, 0, 0, 6, 62, 64, 59, 11);
        for (int set = 0; set < 64; set++) {
            Check.due("where the object of set " + set + " is", x.where(keys[set]), set < 6 ? 0 : 1);
        }
    }
}
