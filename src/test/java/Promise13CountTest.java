/** Promise 13: count. */
public final class Promise13CountTest {
    public static void main(String[] args) {
        noSuchCount();
        everyCount();
        beginsAnewAfterACrashAlone();
        oneByOne();
        Check.end();
    }

    private static void noSuchCount() {
        Counted x = new Counted();
        Drive.everything(x);
        for (int what : new int[] {-1, 13, 14, -13, Integer.MIN_VALUE, Integer.MAX_VALUE}) {
            Check.due("count(" + what + ")", x.count(what), TinyCache.NONE);
        }
        x.close();
        Check.due("count(-1) closed", x.count(-1), TinyCache.NONE);
        Check.due("count(13) closed", x.count(13), TinyCache.NONE);
    }

    private static void everyCount() {
        Counted x = new Counted();
        Check.counts("new", x, new int[13]);
        Drive.everything(x);
        Check.counts("everything", x, Drive.EVERYTHING);
        x.get(Long.MIN_VALUE);
        Check.counts("nothing was read", x, Drive.EVERYTHING);
    }

    private static void beginsAnewAfterACrashAlone() {
        Counted x = new Counted();
        Drive.everything(x);
        x.close();
        Check.counts("closed", x, Drive.EVERYTHING);
        x.open();
        Check.counts("open again", x, Drive.EVERYTHING);
        x.crash();
        Check.counts("crashed", x, new int[13]);
        x.open();
        Check.counts("open after a crash", x, new int[13]);
        Drive.everything(x);
        Check.counts("the same once more", x, Drive.EVERYTHING);
    }

    private static void oneByOne() {
        long[] two = Keys.ofSet(1, 5);
        long alone = Keys.ofSet(2);
        long liked = Keys.ofSet(3);
        Counted x = new Counted();
        Drive.putAll(x, 8, two[0], liked, alone, two[1]);
        x.get(liked);
        Check.due("read for the get", x.count(9), 1);
        Drive.fill(x, 62);
        Check.counts("before", x, 8, 0, 0, 0, 0, 0, 0, 0, 0, 1, 0, 5, 22);
        Drive.fill(x, 1);
        Check.counts("emptied", x, 8, 1, 0, 0, 2, 0, 0, 0, 1, 2, 1, 2, 22);
        x.get(two[0]);
        x.put(two[0], 1);
        x.delete(two[0]);
        Check.counts("deleted", x, 8, 1, 0, 1, 2, 0, 0, 0, 1, 4, 1, 2, 26);
    }
}
