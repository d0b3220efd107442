/** How a segment is emptied: sets of which two or more objects are in the index. */
public final class EmptyingTwosTest {
    private static final int SET = 17;
    private static final long[] K = Keys.ofSet(SET, 8);

    public static void main(String[] args) {
        whenItIsEmptied();
        gatheredFromEverywhere();
        oldValuesGoOut();
        unmarkedGoFirst();
        markedGoNext();
        gatheredGoLast();
        marksAreCleared();
        exactlyFull();
        otherSegmentsStay();
        Check.end();
    }

    private static void whenItIsEmptied() {
        TinyCache x = new TinyCache();
        Drive.put(x, K[0], 8, 100);
        Drive.put(x, K[1], 8, 200);
        Drive.fill(x, 64);
        Check.due("still in the log", x.where(K[0]), 1);
        Drive.fill(x, 1);
        Check.due("moved", x.where(K[0]), 2);
        Check.page("in the order of the log", x, SET, 8, 0, (int) K[0], 100, 101, 102, 103, 104, 105, 106, 107,
                8, 0, (int) K[1], 200, 201, 202, 203, 204, 205, 206, 207);
        Check.counts("moved", x, 8, 1, 0, 0, 2, 0, 0, 0, 0, 1, 0, 1, 11);
    }

    private static void gatheredFromEverywhere() {
        TinyCache x = new TinyCache();
        Drive.put(x, K[0], 8, 100);
        Drive.fill(x, 29);
        Drive.put(x, K[2], 1, 300);
        Drive.fillSegments(x, 8);
        Drive.put(x, K[1], 1, 200);
        Check.due("the open page has the last", x.flash(64, 2), (int) K[0]);
        Drive.fillSegments(x, 9);
        Check.due("three gathered", x.count(4), 3);
        Check.page("in the order of the log", x, SET, 8, 0, (int) K[0], 100, 101, 102, 103, 104, 105, 106, 107,
                1, 0, (int) K[2], 300, 1, 0, (int) K[1], 200);
        Check.due("from the open page", x.where(K[1]), 2);
        Check.due("only the filler is left", x.count(11), 1);
        Drive.fillSegments(x, 17);
        Check.due("not gathered again", x.count(4), 3);
    }

    private static void oldValuesGoOut() {
        TinyCache x = Drive.withSetPage(5, K[0], K[1], K[2]);
        Drive.put(x, K[1], 1, 500);
        Drive.put(x, K[3], 2, 600);
        Drive.fillSegments(x, 18);
        int a = (int) K[0] * 10;
        int c = (int) K[2] * 10;
        Check.page("the newest behind the others", x, SET, 5, 0, (int) K[0], a, a + 1, a + 2, a + 3, a + 4,
                5, 0, (int) K[2], c, c + 1, c + 2, c + 3, c + 4,
                1, 0, (int) K[1], 500, 2, 0, (int) K[3], 600, 601);
        Check.due("an old value is not dropped", x.count(5) + x.count(6) + x.count(7), 0);
    }

    private static void unmarkedGoFirst() {
        TinyCache x = Drive.withSetPage(5, K[0], K[1], K[2], K[3]);
        x.get(K[0]);
        x.get(K[2]);
        Drive.put(x, K[4], 1, 0);
        Drive.put(x, K[5], 1, 0);
        Drive.fillSegments(x, 18);
        Check.due("marked", x.where(K[0]), 2);
        Check.due("the first without a mark", x.where(K[1]), 0);
        Check.due("marked", x.where(K[2]), 2);
        Check.due("room was enough then", x.where(K[3]), 2);
        Check.due("without marks", x.count(5), 1);
        Check.due("with marks", x.count(6), 0);
    }

    private static void markedGoNext() {
        TinyCache x = Drive.withSetPage(5, K[0], K[1], K[2], K[3]);
        x.get(K[0]);
        x.get(K[2]);
        Drive.put(x, K[4], 8, 0);
        Drive.put(x, K[5], 8, 0);
        Drive.fillSegments(x, 18);
        // 32 words and 22 more: three of 8 words go.
        Check.due("the first with a mark", x.where(K[0]), 0);
        Check.due("without a mark", x.where(K[1]), 0);
        Check.due("the second with a mark", x.where(K[2]), 2);
        Check.due("without a mark", x.where(K[3]), 0);
        Check.due("without marks", x.count(5), 2);
        Check.due("with marks", x.count(6), 1);
        Check.due("gathered", x.count(7), 0);
    }

    private static void gatheredGoLast() {
        TinyCache x = Drive.withSetPage(5, K[0], K[1]);
        x.get(K[1]);
        for (int i = 2; i < 6; i++) {
            Drive.put(x, K[i], 8, i * 100);
        }
        Drive.fillSegments(x, 18);
        // 44 words came: two go, though they are newer than what the page had.
        Check.due("without marks", x.count(5), 1);
        Check.due("with marks", x.count(6), 1);
        Check.due("gathered and dropped", x.count(7), 2);
        Check.due("gathered", x.count(4), 6);
        for (int i = 0; i < 4; i++) {
            Check.due("dropped", x.where(K[i]), 0);
        }
        Check.page("the last two", x, SET, 8, 0, (int) K[4], 400, 401, 402, 403, 404, 405, 406, 407,
                8, 0, (int) K[5], 500, 501, 502, 503, 504, 505, 506, 507);
        Check.due("the filter lost the bits", x.get(K[0]), 0);
        Check.due("twice read by moving, once by get", x.count(9), 3);
    }

    private static void marksAreCleared() {
        TinyCache x = Drive.withSetPage(5, K[0], K[1]);
        x.get(K[0]);
        Drive.put(x, K[2], 1, 0);
        Drive.put(x, K[3], 1, 0);
        x.get(K[2]);
        Drive.fillSegments(x, 18);
        // 24 words are there, none marked: what was got in the log comes without a mark, too.
        Drive.put(x, K[4], 8, 0);
        Drive.put(x, K[5], 8, 0);
        Drive.fillSegments(x, 27);
        Check.due("without marks", x.count(5), 2);
        Check.due("with marks", x.count(6), 0);
        Check.due("dropped", x.where(K[0]), 0);
        Check.due("dropped", x.where(K[1]), 0);
        Check.due("left", x.where(K[2]), 2);
    }

    private static void exactlyFull() {
        TinyCache x = Drive.withSetPage(5, K[0], K[1]);
        Drive.put(x, K[2], 5, 0);
        Drive.put(x, K[3], 5, 0);
        Drive.fillSegments(x, 18);
        Check.due("32 words fit", x.count(5), 0);
        Check.due("the last word is there", x.flash(SET, 31), 4);
        for (int i = 0; i < 4; i++) {
            Check.due("there", x.get(K[i]), 5);
        }
    }

    private static void otherSegmentsStay() {
        TinyCache x = new TinyCache();
        Drive.fill(x, 8);
        Drive.put(x, K[0], 8, 0);
        Drive.put(x, K[1], 8, 0);
        Drive.fillSegments(x, 9);
        Check.due("they are in the second segment", x.where(K[0]), 1);
        Drive.fillSegments(x, 10);
        Check.due("that is emptied now", x.where(K[0]), 2);
    }
}
