/** Log pages are written in the order of segments and pages, round and round. */
public final class RoundAndRoundTest {
    private static final int PAGES = 32;

    public static void main(String[] args) {
        // Twice so many calls and the words that are looked at are not more than 512.
        for (int puts = 0; puts <= 224; puts++) {
            newestOfEachPage(puts);
        }
        fullSegments();
        for (int fillers = 0; fillers < 3 * 64; fillers++) {
            emptiedWithItsSegment(fillers);
        }
        putAnewStaysInTheSegment();
        Check.end();
    }

    // Two fillers are in a page, which is written by the next one.
    private static void newestOfEachPage(int puts) {
        Counted x = new Counted();
        for (int put = 1; put <= puts; put++) {
            x.word(0, put);
            Drive.fill(x, 1);
        }
        int written = puts == 0 ? 0 : (puts - 1) / 2;
        for (int p = 0; p < PAGES; p++) {
            int rounds = (written - p + PAGES - 1) / PAGES;
            int page = p + (rounds - 1) * PAGES;
            String what = puts + " puts, log page " + p;
            Check.due(what, x.flash(64 + p, 3), rounds == 0 ? 0 : page * 2 + 1);
            Check.due(what, x.flash(64 + p, 14), rounds == 0 ? 0 : page * 2 + 2);
        }
    }

    private static void fullSegments() {
        Counted x = new Counted();
        for (int puts = 1; puts <= 256; puts++) {
            Drive.fill(x, 1);
            Check.due("segments behind put " + puts, x.count(0), (puts - 1) / 2 / 4);
        }
    }

    // Whichever page of a segment an object is in, it is there until the segment's first
    // page is written again, a round later, and not a put longer.
    private static void emptiedWithItsSegment(int fillers) {
        long key = Keys.ofSet(8);
        int segment = fillers / 2 / 4;
        int putsUntilEmptied = 2 * (segment * 4 + PAGES + 1) + 1;
        Counted x = new Counted();
        Drive.fill(x, fillers);
        x.put(key, 8);
        Drive.fill(x, putsUntilEmptied - fillers - 2);
        Check.due("behind " + fillers + " fillers: there", x.where(key), 1);
        Check.due("behind " + fillers + " fillers: not dropped", x.count(8), 0);
        Drive.fill(x, 1);
        Check.due("behind " + fillers + " fillers: nowhere", x.where(key), 0);
        Check.due("behind " + fillers + " fillers: dropped", x.count(8), 1);
    }

    // What is put anew fills the other three pages of the segment, and the next segment,
    // the first page of which would be written then, is left as it is.
    private static void putAnewStaysInTheSegment() {
        long[] keys = Keys.ofSets(0, 8);
        Counted x = new Counted();
        Drive.putAll(x, 8, keys);
        Drive.fill(x, 1);
        Drive.getAll(x, keys);
        x.delete(keys[7]);
        Drive.fill(x, 56);
        Check.due("not yet", x.count(10), 0);
        Drive.fill(x, 1);
        Check.due("seven of eight are put anew", x.count(10), 7);
        Check.due("the next segment's object is in the log", x.where(keys[8]), 1);
        Check.due("all four pages were written", x.count(0), 9);
        Check.due("its first page is as it was", x.flash(68, 2), (int) keys[8]);
    }
}
