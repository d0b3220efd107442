/** Promise 6: delete. */
public final class Promise06DeleteTest {
    public static void main(String[] args) {
        fromTheLog();
        fromTheSetsPage();
        newestAndOldValue();
        inTheLogWithAnothersBit();
        filterWithoutTheKey();
        othersKeepTheirMarks();
        oneOfEight();
        lastOfThePage();
        putAgain();
        closed();
        Check.end();
    }

    private static void fromTheLog() {
        Counted x = new Counted();
        Drive.put(x, 1, 2, 5);
        Check.due("another key", x.delete(2), false);
        Check.due("there", x.delete(1), true);
        Check.due("gone", x.delete(1), false);
        Check.due("gone", x.get(1), 0);
        Check.due("gone", x.where(1), 0);
        Check.due("out of the index", x.count(11), 0);
        Check.due("its words stay in the open page", x.count(12), 5);
        Check.due("nothing read", x.count(9), 0);
        Check.due("nothing written", x.count(3), 0);
    }

    private static void fromTheSetsPage() {
        long[] k = Keys.ofSet(20, 3);
        Counted x = Drive.withSetPage(1, k);
        Check.due("the middle one", x.delete(k[1]), true);
        Check.due("read", x.count(9), 2);
        Check.due("written", x.count(3), 1);
        Check.due("not by moving", x.count(1), 1);
        Check.page("without it", x, 20, 1, 0, (int) k[0], (int) k[0] * 10, 1, 0, (int) k[2], (int) k[2] * 10);
        Check.due("gone", x.delete(k[1]), false);
        Check.due("the filter lost its bit", x.count(9), 2);
        Check.due("nothing written", x.count(3), 1);
        Check.due("first", x.delete(k[0]), true);
        Check.due("last", x.delete(k[2]), true);
        Check.page("empty", x, 20);
    }

    private static void newestAndOldValue() {
        long[] k = Keys.ofSet(20, 2);
        Counted x = Drive.withSetPage(1, k);
        Drive.put(x, k[0], 2, 5);
        Check.due("newest", x.where(k[0]), 1);
        Check.due("both are out", x.delete(k[0]), true);
        Check.due("no old value comes back", x.get(k[0]), 0);
        Check.due("written", x.count(3), 1);
        Check.page("without the old one", x, 20, 1, 0, (int) k[1], (int) k[1] * 10);
    }

    private static void inTheLogWithAnothersBit() {
        long[] k = Keys.ofSet(20, 2);
        Counted x = Drive.withSetPage(1, k);
        long twin = Keys.twin(k[0]);
        Drive.put(x, twin, 1, 5);
        Check.due("in the log, not in the page", x.delete(twin), true);
        Check.due("read all the same", x.count(9), 2);
        Check.due("not written", x.count(3), 0);
        Check.due("not there", x.get(twin), 0);
    }

    private static void filterWithoutTheKey() {
        long[] k = Keys.ofSet(20, 2);
        Counted x = Drive.withSetPage(1, k);
        Check.due("not there", x.delete(Keys.twin(k[1])), false);
        Check.due("read for nothing", x.count(9), 2);
        Check.due("not written", x.count(3), 0);
    }

    private static void othersKeepTheirMarks() {
        long[] k = Keys.ofSet(20, 5);
        Counted x = Drive.withSetPage(5, k[0], k[1], k[2]);
        x.get(k[1]);
        x.delete(k[0]);
        Drive.put(x, k[3], 8, 1);
        Drive.put(x, k[4], 2, 2);
        Drive.fillSegments(x, 18);
        // 16 words are there and 16 come: nothing is dropped.
        Check.due("all fit", x.count(5) + x.count(6), 0);
        Counted y = Drive.withSetPage(5, k[0], k[1], k[2]);
        y.get(k[1]);
        y.delete(k[0]);
        Drive.put(y, k[3], 8, 1);
        Drive.put(y, k[4], 3, 2);
        Drive.fillSegments(y, 18);
        Check.due("the unmarked one is dropped", y.where(k[2]), 0);
        Check.due("the marked one stays", y.where(k[1]), 2);
        Check.due("unmarked", y.count(5), 1);
        Check.due("marked", y.count(6), 0);
    }

    private static void oneOfEight() {
        long[] eight = Keys.ofSet(20, 8);
        for (int out = 0; out < 8; out++) {
            Counted x = Drive.withSetPage(1, eight);
            Check.due("one of eight", x.delete(eight[out]), true);
            Check.pageOfAllBut("deleted", x, 20, eight, out);
        }
    }

    private static void lastOfThePage() {
        long[] k = Keys.ofSet(20, 2);
        Counted x = Drive.withSetPage(8, k);
        Check.due("one of two", x.delete(k[0]), true);
        Check.due("the last", x.delete(k[1]), true);
        Check.page("empty", x, 20);
        Check.due("both were written", x.count(3), 2);
        int read = x.count(9);
        Check.due("none is left", x.delete(k[1]), false);
        Check.due("nothing is read for that", x.count(9), read);
    }

    private static void putAgain() {
        Counted x = new Counted();
        Drive.put(x, 1, 2, 5);
        x.delete(1);
        Drive.put(x, 1, 1, 9);
        Check.due("there again", x.get(1), 1);
        Check.due("the new value", x.got(0), 9);
        Check.due("one in the index", x.count(11), 1);
        Check.due("deleted again", x.delete(1), true);
        Check.due("and no more", x.delete(1), false);
    }

    private static void closed() {
        long[] k = Keys.ofSet(20, 2);
        Counted x = Drive.withSetPage(1, k);
        Drive.put(x, 1, 2, 5);
        x.close();
        for (long key : new long[] {1, k[0], -1}) {
            Check.throwsState("delete closed", () -> x.delete(key));
        }
        x.open();
        Check.due("nothing was read", x.count(9), 1);
        Check.due("nothing was written", x.count(3), 0);
        Check.due("still in the log", x.where(1), 1);
        Check.due("still in the page", x.where(k[0]), 2);
    }
}
