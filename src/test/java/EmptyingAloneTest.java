/** How a segment is emptied: sets of which one object alone is in the index. */
public final class EmptyingAloneTest {
    private static final int SET = 17;
    private static final long[] K = Keys.ofSet(SET, 6);

    public static void main(String[] args) {
        dropped();
        noOldValueComesBack();
        filterWithoutTheKey();
        othersKeepTheirMarks();
        putAnewOnce();
        putAnewInTheOrderOfTheLog();
        putAnewOverSeveralPages();
        putAnewLeavesNoRoom();
        putAnewOfTheSameKey();
        oldValueStaysBehindOnePutAnew();
        putAnewAgain();
        putAnewThenMoved();
        gotBeforeItCame();
        aMarkIsNotGot();
        lastOfThePage();
        oneOfEight();
        bitOfAnotherStays();
        Check.end();
    }

    private static void dropped() {
        Counted x = new Counted();
        Drive.put(x, K[0], 8, 0);
        Drive.fill(x, 65);
        Check.due("still there", x.where(K[0]), 1);
        Drive.fill(x, 1);
        Check.due("dropped", x.where(K[0]), 0);
        Check.counts("dropped", x, 8, 0, 0, 0, 0, 0, 0, 0, 1, 0, 0, 1, 11);
    }

    private static void noOldValueComesBack() {
        Counted x = Drive.withSetPage(1, K[0], K[1], K[2]);
        Drive.put(x, K[1], 2, 5);
        Drive.fillSegments(x, 18);
        Check.due("nowhere", x.get(K[1]), 0);
        Check.due("dropped alone", x.count(8), 1);
        Check.due("written because of it", x.count(2), 1);
        Check.due("not by delete", x.count(3), 0);
        Check.due("read by moving and for it", x.count(9), 2);
        Check.page("without it", x, SET, 1, 0, (int) K[0], (int) K[0] * 10, 1, 0, (int) K[2], (int) K[2] * 10);
    }

    private static void filterWithoutTheKey() {
        Counted x = Drive.withSetPage(1, K[0], K[1]);
        Drive.put(x, Keys.twin(K[0]), 2, 5);
        Drive.fillSegments(x, 18);
        Check.due("dropped alone", x.count(8), 1);
        Check.due("read", x.count(9), 2);
        Check.due("not written", x.count(2), 0);
        Check.due("the other is there", x.where(K[0]), 2);
        Counted y = Drive.withSetPage(1, K[0], K[1]);
        Drive.put(y, K[2], 2, 5);
        Drive.fillSegments(y, 18);
        Check.due("dropped alone", y.count(8), 1);
        Check.due("no bit, not read", y.count(9), 1);
    }

    private static void othersKeepTheirMarks() {
        Counted x = Drive.withSetPage(8, K[0], K[1]);
        x.get(K[0]);
        Drive.put(x, K[2], 1, 0);
        Drive.put(x, K[3], 1, 0);
        Drive.fillSegments(x, 18);
        // The page has 30 words in four objects, and moving cleared the mark.
        x.get(K[1]);
        Drive.put(x, K[0], 1, 0);
        Drive.fillSegments(x, 27);
        Check.due("written because of one alone", x.count(2), 1);
        Drive.put(x, K[4], 8, 0);
        Drive.put(x, K[5], 1, 0);
        Drive.fillSegments(x, 36);
        // 19 words are left and 15 come: one of four words goes, the first without a mark.
        Check.due("the marked one stays", x.where(K[1]), 2);
        Check.due("the first unmarked one goes", x.where(K[2]), 0);
        Check.due("the other stays", x.where(K[3]), 2);
    }

    private static void putAnewOnce() {
        Counted x = new Counted();
        Drive.put(x, K[0], 8, 40);
        x.get(K[0]);
        Drive.fill(x, 66);
        Check.due("put anew", x.count(10), 1);
        Check.due("in the log", x.where(K[0]), 1);
        Check.due("it and the filler behind it", x.count(12), 22);
        x.close();
        Check.due("both are in the index", x.open(), 2);
        Drive.fill(x, 1);
        Check.due("before the filler in the page", x.flash(65, 2), (int) K[0]);
        Check.due("its value", x.flash(65, 10), 47);
        Drive.fillSegments(x, 17);
        Check.due("not got since", x.count(10), 1);
        Check.due("dropped", x.count(8), 1);
        Check.due("dropped", x.where(K[0]), 0);
    }

    private static void putAnewInTheOrderOfTheLog() {
        long high = Keys.ofSet(40);
        long low = Keys.ofSet(4);
        Counted x = new Counted();
        Drive.put(x, high, 3, 0);
        Drive.put(x, low, 1, 0);
        Drive.put(x, K[0], 1, 0);
        x.get(low);
        x.get(high);
        x.get(K[0]);
        Drive.fillSegments(x, 9);
        Check.due("put anew", x.count(10), 3);
        Check.due("first came first, though its set is the highest", x.flash(65, 2), (int) high);
        Check.due("second", x.flash(65, 8), (int) low);
        Check.due("third", x.flash(65, 12), (int) K[0]);
    }

    private static void putAnewOverSeveralPages() {
        Counted x = new Counted();
        for (int set = 0; set < 7; set++) {
            Drive.put(x, Keys.ofSet(set), 8, set * 100);
        }
        Drive.fill(x, 1);
        for (int set = 0; set < 7; set++) {
            x.get(Keys.ofSet(set));
        }
        Drive.fill(x, 58);
        Check.due("not yet", x.count(10), 0);
        Check.due("segments", x.count(0), 8);
        Drive.fill(x, 1);
        Check.due("put anew", x.count(10), 7);
        Check.due("the whole segment was written over", x.count(0), 9);
        for (int set = 0; set < 6; set++) {
            Check.due("in its page", x.flash(65 + set / 2, set % 2 * 11 + 3), set * 100);
        }
        Check.due("the last and the filler are open", x.count(12), 22);
        Check.due("all are there", x.count(11), 8);
        for (int set = 0; set < 7; set++) {
            Check.due("there", x.get(Keys.ofSet(set)), 8);
            Check.due("its value", x.got(7), set * 100 + 7);
        }
    }

    // Eight objects put anew fill four pages: what was to be put does not fit in behind
    // them, so the open page is written into the next segment, which is emptied, too.
    private static void putAnewLeavesNoRoom() {
        Counted x = new Counted();
        for (int set = 0; set < 10; set++) {
            Drive.put(x, Keys.ofSet(set), 8, set * 100);
        }
        for (int set = 0; set < 8; set++) {
            x.get(Keys.ofSet(set));
        }
        Drive.fill(x, 56);
        Check.due("not yet", x.count(10), 0);
        Drive.fill(x, 1);
        Check.due("put anew", x.count(10), 8);
        Check.due("the next segment was emptied, too", x.count(8), 2);
        Check.due("only what was put is open", x.count(12), 11);
        Check.due("the fifth page since", x.flash(68, 3), 600);
        Check.due("one segment more", x.count(0), 9);
        Check.due("eight and the filler", x.count(11), 9);
    }

    private static void putAnewOfTheSameKey() {
        Counted x = new Counted();
        Drive.put(x, K[0], 8, 40);
        x.get(K[0]);
        Drive.fill(x, 65);
        Drive.put(x, K[0], 8, 90);
        Check.due("the older one was put anew first", x.count(10), 1);
        Check.due("both are in the open page", x.count(12), 22);
        Check.due("newest", x.get(K[0]), 8);
        Check.due("newest", x.got(0), 90);
        Check.due("once in the index", x.count(11), 2);
    }

    private static void oldValueStaysBehindOnePutAnew() {
        Counted x = Drive.withSetPage(1, K[0], K[1]);
        Drive.put(x, K[0], 2, 70);
        x.get(K[0]);
        Drive.fillSegments(x, 18);
        Check.due("put anew", x.count(10), 1);
        Check.due("its set's page is left alone", x.flash(SET, 2), (int) K[0]);
        Check.due("newest", x.get(K[0]), 2);
        Check.due("newest", x.got(0), 70);
        Check.due("dropped none", x.count(8), 0);
        Check.due("moving and the get read, nothing else", x.count(9), 2);
        Check.due("nothing written but by moving", x.count(2), 0);
    }

    private static void putAnewAgain() {
        Counted x = new Counted();
        Drive.put(x, K[0], 8, 40);
        for (int round = 1; round <= 3; round++) {
            Check.due("there", x.get(K[0]), 8);
            Drive.fillSegments(x, 8 * round + 1);
            Check.due("put anew each time it was got", x.count(10), round);
        }
        Drive.fillSegments(x, 33);
        Check.due("dropped when it was not", x.count(8), 1);
        Check.due("three times in all", x.count(10), 3);
    }

    private static void putAnewThenMoved() {
        Counted x = new Counted();
        x.put(K[0], 8);
        x.get(K[0]);
        Drive.fillSegments(x, 9);
        x.put(K[1], 8);
        Drive.fillSegments(x, 17);
        Check.due("it is gathered with a newer one of its set", x.count(4), 2);
        Check.due("in the order in which they came", x.flash(SET, 2), (int) K[0]);
        Check.due("in the order in which they came", x.flash(SET, 13), (int) K[1]);
    }

    private static void gotBeforeItCame() {
        Counted x = new Counted();
        x.put(K[0], 8);
        x.get(K[0]);
        x.put(K[0], 8);
        Drive.fillSegments(x, 9);
        Check.due("the older value was got, not this one", x.count(10), 0);
        Check.due("dropped", x.count(8), 1);
        Counted y = new Counted();
        y.get(K[0]);
        y.put(K[0], 8);
        Drive.fillSegments(y, 9);
        Check.due("nothing was got", y.count(10), 0);
    }

    private static void aMarkIsNotGot() {
        Counted x = Drive.withSetPage(1, K[0], K[1]);
        x.get(K[0]);
        x.put(K[0], 2);
        Drive.fillSegments(x, 18);
        Check.due("the page's value was got, not this one", x.count(10), 0);
        Check.due("dropped", x.count(8), 1);
        Check.due("with the old value", x.where(K[0]), 0);
        Check.due("with the old value", x.count(2), 1);
    }

    private static void lastOfThePage() {
        Counted x = Drive.withSetPage(1, K[0], K[1]);
        x.delete(K[1]);
        x.put(K[0], 8);
        Drive.fillSegments(x, 18);
        Check.page("nothing is left", x, SET);
        int read = x.count(9);
        Check.due("nowhere", x.get(K[0]), 0);
        Check.due("the filter is empty", x.count(9), read);
    }

    private static void oneOfEight() {
        long[] eight = Keys.ofSet(SET, 8);
        for (int out = 0; out < 8; out++) {
            Counted x = Drive.withSetPage(1, eight);
            x.put(eight[out], 8);
            Drive.fillSegments(x, 18);
            Check.pageOfAllBut("dropped", x, SET, eight, out);
        }
    }

    // Both have the same bit: it stays in the filter as long as one of them is in the page.
    private static void bitOfAnotherStays() {
        Counted x = Drive.withSetPage(1, K[0], Keys.twin(K[0]));
        x.put(K[0], 8);
        Drive.fillSegments(x, 18);
        Check.due("written without it", x.count(2), 1);
        int read = x.count(9);
        Check.due("nowhere", x.get(K[0]), 0);
        Check.due("the other's bit is there", x.count(9), read + 1);
        Check.due("the other is there", x.where(Keys.twin(K[0])), 2);
    }
}
