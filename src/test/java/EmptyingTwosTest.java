/** How a segment is emptied: sets of which two or more objects are in the index. */
public final class EmptyingTwosTest {
    private static final int SET = 17;
    private static final long[] K = Keys.ofSet(SET, 8);

    public static void main(String[] args) {
        whenItIsEmptied();
        gatheredFromEverywhere();
        oldValuesGoOut();
        unmarkedGoFirst();
        markedGoNext();
        gatheredGoLast();
        marksAreCleared();
        gotInTheLogIsNoMark();
        exactlyFull();
        oneWordTooMany();
        droppedUntilAllFitAndNoLonger();
        onlyMarkedOnes();
        oldValuesMakeRoomFirst();
        oldValueOfOneThatIsDropped();
        gotOnesAreDroppedLikeOthers();
        eightAndNineSmallOnes();
        eightSmallOnesAndMore();
        allOfTheLogInOneSet();
        newestPlaceIsItsOrder();
        firstAndLastSet();
        otherSegmentsStay();
        setOfADeletedOneStays();
        setOfAnOlderOneStays();
        twoPlacesOfOneKeyAreNotTwo();
        Check.end();
    }

    private static void whenItIsEmptied() {
        Counted x = new Counted();
        Drive.put(x, K[0], 8, 100);
        Drive.put(x, K[1], 8, 200);
        Drive.fill(x, 64);
        Check.due("still in the log", x.where(K[0]), 1);
        Drive.fill(x, 1);
        Check.due("moved", x.where(K[0]), 2);
        Check.page("in the order of the log", x, SET, 8, 0, (int) K[0], 100, 101, 102, 103, 104, 105, 106, 107,
                8, 0, (int) K[1], 200, 201, 202, 203, 204, 205, 206, 207);
        Check.counts("moved", x, 8, 1, 0, 0, 2, 0, 0, 0, 0, 1, 0, 1, 11);
    }

    private static void gatheredFromEverywhere() {
        Counted x = new Counted();
        Drive.put(x, K[0], 8, 100);
        Drive.fill(x, 29);
        Drive.put(x, K[2], 1, 300);
        Drive.fillSegments(x, 8);
        Drive.put(x, K[1], 1, 200);
        Check.due("the open page has the last", x.flash(64, 2), (int) K[0]);
        Drive.fillSegments(x, 9);
        Check.due("three gathered", x.count(4), 3);
        Check.page("in the order of the log", x, SET, 8, 0, (int) K[0], 100, 101, 102, 103, 104, 105, 106, 107,
                1, 0, (int) K[2], 300, 1, 0, (int) K[1], 200);
        Check.due("from the open page", x.where(K[1]), 2);
        Check.due("only the filler is left", x.count(11), 1);
        Drive.fillSegments(x, 17);
        Check.due("not gathered again", x.count(4), 3);
    }

    private static void oldValuesGoOut() {
        Counted x = Drive.withSetPage(5, K[0], K[1], K[2]);
        Drive.put(x, K[1], 1, 500);
        Drive.put(x, K[3], 2, 600);
        Drive.fillSegments(x, 18);
        int a = (int) K[0] * 10;
        int c = (int) K[2] * 10;
        Check.page("the newest behind the others", x, SET, 5, 0, (int) K[0], a, a + 1, a + 2, a + 3, a + 4,
                5, 0, (int) K[2], c, c + 1, c + 2, c + 3, c + 4,
                1, 0, (int) K[1], 500, 2, 0, (int) K[3], 600, 601);
        Check.due("an old value is not dropped", x.count(5) + x.count(6) + x.count(7), 0);
    }

    private static void unmarkedGoFirst() {
        Counted x = Drive.withSetPage(5, K[0], K[1], K[2], K[3]);
        x.get(K[0]);
        x.get(K[2]);
        Drive.put(x, K[4], 1, 0);
        Drive.put(x, K[5], 1, 0);
        Drive.fillSegments(x, 18);
        Check.due("marked", x.where(K[0]), 2);
        Check.due("the first without a mark", x.where(K[1]), 0);
        Check.due("marked", x.where(K[2]), 2);
        Check.due("room was enough then", x.where(K[3]), 2);
        Check.due("without marks", x.count(5), 1);
        Check.due("with marks", x.count(6), 0);
    }

    private static void markedGoNext() {
        Counted x = Drive.withSetPage(5, K[0], K[1], K[2], K[3]);
        x.get(K[0]);
        x.get(K[2]);
        Drive.put(x, K[4], 8, 0);
        Drive.put(x, K[5], 8, 0);
        Drive.fillSegments(x, 18);
        // 32 words and 22 more: three of 8 words go.
        Check.due("the first with a mark", x.where(K[0]), 0);
        Check.due("without a mark", x.where(K[1]), 0);
        Check.due("the second with a mark", x.where(K[2]), 2);
        Check.due("without a mark", x.where(K[3]), 0);
        Check.due("without marks", x.count(5), 2);
        Check.due("with marks", x.count(6), 1);
        Check.due("gathered", x.count(7), 0);
    }

    private static void gatheredGoLast() {
        Counted x = Drive.withSetPage(5, K[0], K[1]);
        x.get(K[1]);
        for (int i = 2; i < 6; i++) {
            Drive.put(x, K[i], 8, i * 100);
        }
        Drive.fillSegments(x, 18);
        // 44 words came: two go, though they are newer than what the page had.
        Check.due("without marks", x.count(5), 1);
        Check.due("with marks", x.count(6), 1);
        Check.due("gathered and dropped", x.count(7), 2);
        Check.due("gathered", x.count(4), 6);
        for (int i = 0; i < 4; i++) {
            Check.due("dropped", x.where(K[i]), 0);
        }
        Check.page("the last two", x, SET, 8, 0, (int) K[4], 400, 401, 402, 403, 404, 405, 406, 407,
                8, 0, (int) K[5], 500, 501, 502, 503, 504, 505, 506, 507);
        Check.due("the filter lost the bits", x.get(K[0]), 0);
        Check.due("twice read by moving, once by get", x.count(9), 3);
    }

    private static void marksAreCleared() {
        Counted x = Drive.withSetPage(5, K[0], K[1]);
        x.get(K[0]);
        Drive.put(x, K[2], 1, 0);
        Drive.put(x, K[3], 1, 0);
        Drive.fillSegments(x, 18);
        // 24 words are there, none marked.
        Drive.put(x, K[4], 8, 0);
        Drive.put(x, K[5], 8, 0);
        Drive.fillSegments(x, 27);
        Check.due("without marks", x.count(5), 2);
        Check.due("with marks", x.count(6), 0);
        Check.due("dropped", x.where(K[0]), 0);
        Check.due("dropped", x.where(K[1]), 0);
        Check.due("left", x.where(K[2]), 2);
    }

    private static void gotInTheLogIsNoMark() {
        Counted x = new Counted();
        Drive.putAll(x, 8, K[0], K[1]);
        x.get(K[0]);
        Drive.fillSegments(x, 9);
        Drive.putAll(x, 8, K[2], K[3]);
        Drive.fillSegments(x, 18);
        // 22 words and 22 more: both go, and one of them was got before it came into the page.
        Check.due("without marks", x.count(5), 2);
        Check.due("with marks", x.count(6), 0);
    }

    private static void exactlyFull() {
        Counted x = Drive.withSetPage(5, K[0], K[1]);
        Drive.put(x, K[2], 5, 0);
        Drive.put(x, K[3], 5, 0);
        Drive.fillSegments(x, 18);
        Check.due("32 words fit", x.count(5), 0);
        Check.due("the last word is there", x.flash(SET, 31), 4);
        for (int i = 0; i < 4; i++) {
            Check.due("there", x.get(K[i]), 5);
        }
    }

    private static void otherSegmentsStay() {
        Counted x = new Counted();
        Drive.fill(x, 8);
        Drive.put(x, K[0], 8, 0);
        Drive.put(x, K[1], 8, 0);
        Drive.fillSegments(x, 9);
        Check.due("they are in the second segment", x.where(K[0]), 1);
        Drive.fillSegments(x, 10);
        Check.due("that is emptied now", x.where(K[0]), 2);
    }

    /** The page has 5, 5 words; 5 and n come, behind a get of the marked ones. */
    private static Counted twoAndTwoMore(int n, long... marked) {
        Counted x = Drive.withSetPage(5, K[0], K[1]);
        Drive.getAll(x, marked);
        x.put(K[2], 5);
        x.put(K[3], n);
        Drive.fillSegments(x, 18);
        return x;
    }

    private static void oneWordTooMany() {
        Counted x = twoAndTwoMore(6);
        Check.due("33 words do not fit", x.count(5), 1);
        Check.due("the first goes", x.where(K[0]), 0);
        Check.due("the second stays", x.flash(SET, 2), (int) K[1]);
        Check.due("25 words are left", x.flash(SET, 16), 6);
        Check.due("nothing behind them", x.flash(SET, 25), 0);
        Counted y = twoAndTwoMore(6, K[0], K[1]);
        Check.due("33 words do not fit, all marked", y.count(6), 1);
        Check.due("the first goes", y.where(K[0]), 0);
        Check.due("the second stays", y.where(K[1]), 2);
    }

    private static void droppedUntilAllFitAndNoLonger() {
        Counted x = new Counted();
        x.put(K[0], 1);
        x.put(K[1], 8);
        x.put(K[2], 1);
        x.put(K[3], 8);
        Drive.fillSegments(x, 9);
        x.put(K[4], 1);
        x.put(K[5], 1);
        Drive.fillSegments(x, 18);
        // 30 words and 8 more: without the first there are 34, without the second 23.
        Check.due("dropped", x.count(5), 2);
        Check.due("first", x.where(K[0]), 0);
        Check.due("second", x.where(K[1]), 0);
        Check.due("third", x.where(K[2]), 2);
        Check.due("fourth", x.where(K[3]), 2);
    }

    private static void onlyMarkedOnes() {
        Counted x = Drive.withSetPage(5, K[0], K[1], K[2], K[3]);
        Drive.getAll(x, K[3], K[2], K[1], K[0]);
        x.put(K[4], 5);
        x.put(K[5], 6);
        Drive.fillSegments(x, 18);
        // 32 words and 17 more: three of 8 go, in the order of the page, not of the gets.
        Check.due("without marks", x.count(5), 0);
        Check.due("with marks", x.count(6), 3);
        Check.due("gathered", x.count(7), 0);
        Check.due("the last is left", x.flash(SET, 2), (int) K[3]);
        Check.due("then the gathered", x.flash(SET, 10), (int) K[4]);
        Check.due("then the gathered", x.flash(SET, 18), (int) K[5]);
    }

    private static void oldValuesMakeRoomFirst() {
        Counted x = Drive.withSetPage(5, K[0], K[1], K[2], K[3]);
        Drive.getAll(x, K[0], K[1]);
        x.put(K[1], 5);
        x.put(K[0], 5);
        Drive.fillSegments(x, 18);
        Check.due("none is dropped", x.count(5) + x.count(6) + x.count(7), 0);
        for (int i = 0; i < 4; i++) {
            long[] order = {K[2], K[3], K[1], K[0]};
            Check.due("what is left, then the gathered", x.flash(SET, i * 8 + 2), (int) order[i]);
        }
    }

    private static void oldValueOfOneThatIsDropped() {
        Counted x = Drive.withSetPage(8, K[0], K[1]);
        x.get(K[0]);
        Drive.putAll(x, 8, K[0], K[2], K[3]);
        Drive.fillSegments(x, 18);
        // 33 words come: the page's other object goes, and then the first of the gathered.
        Check.due("without marks", x.count(5), 1);
        Check.due("an old value with a mark is not counted", x.count(6), 0);
        Check.due("gathered", x.count(7), 1);
        Check.due("no old value comes back", x.where(K[0]), 0);
        Check.due("no old value comes back", x.get(K[0]), 0);
        Check.due("left", x.flash(SET, 2), (int) K[2]);
        Check.due("left", x.flash(SET, 13), (int) K[3]);
        Check.due("out of the index, all of them", x.count(11), 1);
    }

    private static void gotOnesAreDroppedLikeOthers() {
        Counted x = new Counted();
        Drive.putAll(x, 8, K[0], K[1], K[2]);
        x.get(K[0]);
        Drive.fillSegments(x, 9);
        Check.due("the first goes, though it was got", x.where(K[0]), 0);
        Check.due("gathered", x.count(7), 1);
        Check.due("neither without marks nor with", x.count(5) + x.count(6), 0);
        Check.due("none is put anew", x.count(10), 0);
    }

    private static void eightAndNineSmallOnes() {
        long[] keys = Keys.ofSet(SET, 9);
        for (int n = 8; n <= 9; n++) {
            Counted x = new Counted();
            for (int i = 0; i < n; i++) {
                x.put(keys[i], 1);
            }
            Drive.fillSegments(x, 9);
            Check.due(n + " gathered", x.count(4), n);
            Check.due(n + " gathered, dropped", x.count(7), n - 8);
            Check.due(n + " gathered, the first of the page", x.flash(SET, 2), (int) keys[n - 8]);
            Check.due(n + " gathered, the last of the page", x.flash(SET, 30), (int) keys[n - 1]);
            Check.due(n + " gathered, one page is read and written", x.count(1) + x.count(9), 2);
        }
    }

    private static void eightSmallOnesAndMore() {
        Counted x = Drive.withSetPage(1, K);
        x.get(K[0]);
        long[] more = Keys.ofSet(SET, 10);
        Drive.putAll(x, 1, more[8], more[9]);
        Drive.fillSegments(x, 18);
        long[] order = {K[0], K[3], K[4], K[5], K[6], K[7], more[8], more[9]};
        for (int i = 0; i < 8; i++) {
            Check.due("eight are left", x.flash(SET, i * 4 + 2), (int) order[i]);
        }
        Check.due("two without marks are dropped", x.count(5), 2);
    }

    // 32 pages and the open one, with eight objects each: the last eight are left.
    private static void allOfTheLogInOneSet() {
        long[] keys = Keys.manyOfSet(SET, 265);
        Counted x = new Counted();
        for (int i = 0; i < 264; i++) {
            x.put(keys[i], 1);
        }
        Check.counts("full", x, 8, 0, 0, 0, 0, 0, 0, 0, 0, 0, 0, 264, 32);
        x.put(keys[264], 1);
        Check.counts("gathered", x, 8, 1, 0, 0, 264, 0, 0, 256, 0, 1, 0, 1, 4);
        for (int i = 0; i < 8; i++) {
            Check.due("left", x.flash(SET, i * 4 + 2), (int) keys[256 + i]);
        }
        Check.due("dropped", x.where(keys[255]), 0);
        Check.due("the open page's", x.where(keys[256]), 2);
        Check.due("what came behind is in the log", x.where(keys[264]), 1);
    }

    private static void newestPlaceIsItsOrder() {
        Counted x = new Counted();
        Drive.putAll(x, 1, K[0], K[1], K[2], K[0]);
        Drive.fillSegments(x, 9);
        Check.due("three keys", x.count(4), 3);
        Check.due("first", x.flash(SET, 2), (int) K[1]);
        Check.due("second", x.flash(SET, 6), (int) K[2]);
        Check.due("the one that came again", x.flash(SET, 10), (int) K[0]);
        Check.due("once", x.flash(SET, 12), 0);
    }

    private static void firstAndLastSet() {
        long[] first = Keys.ofSet(0, 2);
        long[] last = Keys.ofSet(63, 2);
        long filler = Keys.ofSet(30);
        Counted x = new Counted();
        Drive.putAll(x, 8, last[1], first[1], last[0], first[0]);
        for (int i = 0; i < 63; i++) {
            x.put(filler, 8);
        }
        Check.due("both sets are moved", x.count(1), 2);
        Check.due("set 0", x.flash(0, 2), (int) first[1]);
        Check.due("set 0", x.flash(0, 13), (int) first[0]);
        Check.due("set 63", x.flash(63, 2), (int) last[1]);
        Check.due("set 63", x.flash(63, 13), (int) last[0]);
        Check.page("set 1", x, 1);
        Check.page("set 62", x, 62);
    }

    // The set has two objects in the second segment, but none in the first any more.
    private static void setOfADeletedOneStays() {
        Counted x = new Counted();
        x.put(K[0], 8);
        Drive.fill(x, 7);
        Drive.putAll(x, 8, K[1], K[2]);
        x.delete(K[0]);
        Drive.fillSegments(x, 9);
        Check.due("nothing is gathered", x.count(4), 0);
        Check.due("still in the log", x.where(K[1]), 1);
        Drive.fillSegments(x, 10);
        Check.due("gathered with their own segment", x.count(4), 2);
        Check.due("moved", x.where(K[1]), 2);
    }

    private static void setOfAnOlderOneStays() {
        Counted x = new Counted();
        Drive.putAll(x, 8, K[0], K[1]);
        Drive.fill(x, 6);
        Drive.putAll(x, 8, K[1], K[0]);
        Drive.fillSegments(x, 9);
        Check.due("nothing is gathered", x.count(4), 0);
        Check.due("nothing is dropped", x.count(8), 0);
        Check.due("still in the log", x.where(K[0]), 1);
        Drive.fillSegments(x, 10);
        Check.due("gathered with their newest places' segment", x.count(4), 2);
    }

    private static void twoPlacesOfOneKeyAreNotTwo() {
        Counted x = new Counted();
        Drive.putAll(x, 8, K[0], K[0]);
        Drive.fillSegments(x, 9);
        Check.due("not gathered as two", x.count(4), 0);
        Check.due("dropped as one alone", x.count(8), 1);
        Counted y = new Counted();
        Drive.putAll(y, 8, K[0], K[1]);
        y.delete(K[1]);
        Drive.fillSegments(y, 9);
        Check.due("the other one was deleted", y.count(4), 0);
        Check.due("dropped as one alone", y.count(8), 1);
    }
}
