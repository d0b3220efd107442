/** Promise 9: flash. */
public final class Promise09FlashTest {
    public static void main(String[] args) {
        edges();
        objectsInTheirWords();
        logGoesRound();
        shorterPageOverALongerOne();
        Check.end();
    }

    private static void edges() {
        TinyCache x = new TinyCache();
        for (int p : new int[] {0, 63, 64, 95}) {
            Check.due("first word", x.flash(p, 0), 0);
            Check.due("last word", x.flash(p, 31), 0);
            for (int i : new int[] {-1, 32, Integer.MIN_VALUE, Integer.MAX_VALUE}) {
                Check.throwsIndex("flash(" + p + ", " + i + ")", () -> x.flash(p, i));
            }
        }
        for (int p : new int[] {-1, 96, Integer.MIN_VALUE, Integer.MAX_VALUE}) {
            Check.throwsIndex("flash(" + p + ", 0)", () -> x.flash(p, 0));
        }
    }

    private static void objectsInTheirWords() {
        TinyCache x = new TinyCache();
        long key = 0x89abcdef_f1234567L;
        Drive.put(x, key, 2, -9);
        Drive.put(x, 7, 1, 3);
        Drive.put(x, key, 8, 20);
        Check.page("the open page is not on flash", x, 64);
        x.delete(7);
        Drive.fill(x, 2);
        Check.page("what is no object any more stays", x, 64, 2, 0x89abcdef, 0xf1234567, -9, -8, 1, 0, 7, 3,
                8, 0x89abcdef, 0xf1234567, 20, 21, 22, 23, 24, 25, 26, 27, 8, 0, (int) Drive.FILLER,
                20, 21, 22, 23, 24, 25, 26, 27);
        x.close();
        Check.due("closed", x.flash(64, 1), 0x89abcdef);
        Check.throwsIndex("flash(96, 0) closed", () -> x.flash(96, 0));
    }

    private static void logGoesRound() {
        TinyCache x = new TinyCache();
        for (int n = 0; n < 66; n++) {
            Drive.put(x, Drive.FILLER, 8, n * 10);
        }
        for (int p = 0; p < 32; p++) {
            Check.due("first of its page", x.flash(64 + p, 3), p * 20);
            Check.due("second of its page", x.flash(64 + p, 14), p * 20 + 10);
        }
        Drive.fill(x, 1);
        Check.due("the first page again", x.flash(64, 3), 640);
        Check.due("the others of the segment are as they were", x.flash(65, 3), 20);
        Check.due("the last page is as it was", x.flash(95, 14), 630);
    }

    private static void shorterPageOverALongerOne() {
        TinyCache x = new TinyCache();
        for (int n = 1; n <= 8; n++) {
            Drive.put(x, Drive.FILLER, 1, n);
        }
        Drive.fillSegments(x, 8);
        Check.due("32 words", x.flash(64, 31), 8);
        Drive.fillSegments(x, 9);
        Check.due("22 words", x.flash(64, 11), 8);
        for (int i = 22; i < 32; i++) {
            Check.due("nothing behind them", x.flash(64, i), 0);
        }
    }
}
