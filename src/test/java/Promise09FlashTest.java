/** Promise 9: flash. */
public final class Promise09FlashTest {
    public static void main(String[] args) {
        edges();
        objectsInTheirWords();
        logGoesRound();
        firstAndLastPages();
        keysOfBothSigns();
        shorterPageOverALongerOne();
        Check.end();
    }

    private static void edges() {
        Counted x = new Counted();
        for (int p : new int[] {0, 63, 64, 95}) {
            Check.due("first word", x.flash(p, 0), 0);
            Check.due("last word", x.flash(p, 31), 0);
            for (int i : new int[] {-1, 32, Integer.MIN_VALUE, Integer.MAX_VALUE}) {
                Check.throwsIndex("flash(" + p + ", " + i + ")", () -> x.flash(p, i));
            }
        }
        for (int p : new int[] {-1, 96, Integer.MIN_VALUE, Integer.MAX_VALUE}) {
            for (int i : new int[] {0, 31, -1, 32}) {
                Check.throwsIndex("flash(" + p + ", " + i + ")", () -> x.flash(p, i));
            }
        }
    }

    private static void objectsInTheirWords() {
        Counted x = new Counted();
        long key = 0x89abcdef_f1234567L;
        Drive.put(x, key, 2, -9);
        Drive.put(x, 7, 1, 3);
        Drive.put(x, key, 8, 20);
        Check.page("the open page is not on flash", x, 64);
        x.delete(7);
        Drive.fill(x, 2);
        Check.page("what is no object any more stays", x, 64, 2, 0x89abcdef, 0xf1234567, -9, -8, 1, 0, 7, 3,
                8, 0x89abcdef, 0xf1234567, 20, 21, 22, 23, 24, 25, 26, 27, 8, 0, (int) Drive.FILLER,
                20, 21, 22, 23, 24, 25, 26, 27);
        x.close();
        Check.due("closed", x.flash(64, 1), 0x89abcdef);
        Check.throwsIndex("flash(96, 0) closed", () -> x.flash(96, 0));
    }

    private static void logGoesRound() {
        Counted x = new Counted();
        for (int n = 0; n < 66; n++) {
            x.word(0, n * 10);
            Drive.fill(x, 1);
        }
        for (int p = 0; p < 32; p++) {
            Check.due("first of its page", x.flash(64 + p, 3), p * 20);
            Check.due("second of its page", x.flash(64 + p, 14), p * 20 + 10);
        }
        Drive.fill(x, 1);
        Check.due("the first page again", x.flash(64, 3), 640);
        Check.due("the others of the segment are as they were", x.flash(65, 3), 20);
        Check.due("the last page is as it was", x.flash(95, 14), 630);
    }

    // Both ends of the sets' pages and of the log's, each word where it belongs.
    private static void firstAndLastPages() {
        for (int set : new int[] {0, 62}) {
            long[] k = Keys.ofSet(set, 2);
            Counted x = Drive.withSetPage(8, k);
            Check.due("first word", x.flash(set, 0), 8);
            Check.due("last word", x.flash(set, 21), (int) k[1] * 10 + 7);
            Check.due("behind it", x.flash(set, 22), 0);
            Check.due("the last word of the page", x.flash(set, 31), 0);
            Check.due("the next set's page", x.flash(set + 1, 0), 0);
        }
        Counted x = new Counted();
        for (int n = 0; n < 256; n++) {
            x.put(1, 1);
        }
        Check.due("the last page is open", x.flash(95, 0), 0);
        x.word(0, 7);
        x.put(1, 1);
        Check.due("the last page is written", x.flash(95, 0), 1);
        Check.due("its last object", x.flash(95, 30), 1);
        Check.due("its last word", x.flash(95, 31), 0);
        Check.due("a full page", x.flash(64, 28), 1);
    }

    private static void keysOfBothSigns() {
        for (long key : new long[] {0, -1, Long.MIN_VALUE, Long.MAX_VALUE, 0x7fffffffL, 0x80000000L, -0x80000000L}) {
            Counted x = new Counted();
            Drive.put(x, key, 1, 3);
            Drive.putAll(x, 8, 1, 2, 3);
            Check.due("the high word of " + key, x.flash(64, 1), key >> 32);
            Check.due("the low word of " + key, x.flash(64, 2), (int) key);
            Check.due("there", x.get(key), 1);
        }
    }

    private static void shorterPageOverALongerOne() {
        Counted x = new Counted();
        for (int n = 1; n <= 8; n++) {
            Drive.put(x, Drive.FILLER, 1, n);
        }
        Drive.fillSegments(x, 8);
        Check.due("32 words", x.flash(64, 31), 8);
        Drive.fillSegments(x, 9);
        Check.due("22 words", x.flash(64, 11), 8);
        for (int i = 22; i < 32; i++) {
            Check.due("nothing behind them", x.flash(64, i), 0);
        }
    }
}
