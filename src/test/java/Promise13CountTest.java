/** Promise 13: count. */
public final class Promise13CountTest {
    public static void main(String[] args) {
        TinyCache x = new TinyCache();
        for (int what : new int[] {-1, 13, 14, Integer.MIN_VALUE, Integer.MAX_VALUE}) {
            Check.due("count(" + what + ")", x.count(what), TinyCache.NONE);
        }
        segments();
        everyCount();
        Check.end();
    }

    private static void segments() {
        TinyCache x = new TinyCache();
        for (int n = 0; n < 400; n++) {
            // Put n finds n / 2 pages full before it, and they are written by then.
            Check.due("segments before put " + n, x.count(0), n == 0 ? 0 : (n - 1) / 2 / 4);
            Drive.fill(x, 1);
        }
    }

    private static void everyCount() {
        long[] two = Keys.ofSet(1, 5);
        long alone = Keys.ofSet(2);
        long liked = Keys.ofSet(3);
        TinyCache x = new TinyCache();
        Drive.put(x, two[0], 8, 0);
        Drive.put(x, liked, 8, 0);
        Drive.put(x, alone, 8, 0);
        Drive.put(x, two[1], 8, 0);
        x.get(liked);
        Check.due("read for the get", x.count(9), 1);
        Drive.fill(x, 62);
        Check.counts("before", x, 8, 0, 0, 0, 0, 0, 0, 0, 0, 1, 0, 5, 22);
        Drive.fill(x, 1);
        Check.counts("emptied", x, 8, 1, 0, 0, 2, 0, 0, 0, 1, 2, 1, 2, 22);
        x.get(two[0]);
        Drive.put(x, two[0], 1, 0);
        x.delete(two[0]);
        Check.counts("deleted", x, 8, 1, 0, 1, 2, 0, 0, 0, 1, 4, 1, 2, 26);
        x.close();
        Check.counts("closed", x, 8, 1, 0, 1, 2, 0, 0, 0, 1, 4, 1, 2, 26);
        x.open();
        x.crash();
        Check.counts("crashed", x, new int[13]);
    }
}
