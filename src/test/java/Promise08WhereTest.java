/** Promise 8: where. */
public final class Promise08WhereTest {
    public static void main(String[] args) {
        long[] k = Keys.ofSet(31, 4);
        Counted x = Drive.withSetPage(5, k[0], k[1], k[2]);
        int read = x.count(9);
        Check.due("set's page", x.where(k[0]), 2);
        Check.due("set's page", x.where(k[2]), 2);
        Check.due("its bit, but not there", x.where(Keys.twin(k[0])), 0);
        Check.due("nowhere", x.where(k[3]), 0);
        Check.due("log", x.where(Drive.FILLER), 1);
        Drive.put(x, k[1], 1, 1);
        Check.due("newest in the log", x.where(k[1]), 1);
        Check.due("nothing read", x.count(9), read);
        nothingIsMarked(k);
        nothingIsGot();
        x.close();
        for (long key : new long[] {k[0], k[1], k[3]}) {
            Check.throwsState("where closed", () -> x.where(key));
        }
        nowhere(k);
        Check.end();
    }

    private static void nowhere(long[] k) {
        Counted x = Drive.withSetPage(5, k[0], k[1]);
        x.delete(k[0]);
        Check.due("deleted from the page", x.where(k[0]), 0);
        x.put(k[1], 1);
        x.delete(k[1]);
        Check.due("deleted from the log, and the old value, too", x.where(k[1]), 0);
        x.crash();
        x.open();
        Check.due("after a crash", x.where(Drive.FILLER), 0);
    }

    private static void nothingIsMarked(long[] k) {
        Counted x = Drive.withSetPage(8, k[0], k[1]);
        x.where(k[0]);
        Drive.put(x, k[2], 8, 1);
        Drive.put(x, k[3], 1, 1);
        Drive.fillSegments(x, 18);
        Check.due("the first was not marked", x.where(k[0]), 0);
        Check.due("dropped without marks", x.count(5), 1);
    }

    private static void nothingIsGot() {
        Counted x = new Counted();
        long key = Keys.ofSet(31);
        Drive.put(x, key, 8, 1);
        x.where(key);
        Drive.fillSegments(x, 9);
        Check.due("not put anew", x.count(10), 0);
        Check.due("dropped alone", x.count(8), 1);
    }
}
