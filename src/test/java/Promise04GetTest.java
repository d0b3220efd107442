/** Promise 4: get. */
public final class Promise04GetTest {
    public static void main(String[] args) {
        fromTheOpenPage();
        fromALogPage();
        fromTheSetsPage();
        filterWithoutTheKey();
        oldValueIsNotLookedFor();
        Check.throwsState("get closed", () -> {
            TinyCache x = new TinyCache();
            x.close();
            x.get(1);
        });
        Check.end();
    }

    private static void fromTheOpenPage() {
        TinyCache x = new TinyCache();
        Drive.put(x, Long.MIN_VALUE, 3, 1);
        Check.due("open page", x.get(Long.MIN_VALUE), 3);
        Check.due("another key", x.get(Long.MAX_VALUE), 0);
        Check.due("nothing is read", x.count(9), 0);
    }

    private static void fromALogPage() {
        TinyCache x = new TinyCache();
        Drive.put(x, 1, 8, 1);
        Drive.put(x, 2, 8, 21);
        Drive.put(x, 3, 8, 31);
        Check.due("log page", x.get(2), 8);
        Check.due("value", x.got(7), 28);
        Check.due("read", x.count(9), 1);
        x.get(2);
        Check.due("read again", x.count(9), 2);
        x.get(3);
        Check.due("open page is not read", x.count(9), 2);
    }

    private static void fromTheSetsPage() {
        long[] k = Keys.ofSet(9, 3);
        TinyCache x = Drive.withSetPage(5, k[0], k[1]);
        Check.due("read by moving", x.count(9), 1);
        Check.due("second of the page", x.get(k[1]), 5);
        Check.due("its value", x.got(4), (int) k[1] * 10 + 4);
        Check.due("read", x.count(9), 2);
        Check.due("without its bit", x.get(k[2]), 0);
        Check.due("not read", x.count(9), 2);
    }

    private static void filterWithoutTheKey() {
        long[] k = Keys.ofSet(9, 2);
        TinyCache x = Drive.withSetPage(5, k[0], k[1]);
        long twin = Keys.twin(k[0]);
        Check.due("its bit, but not there", x.get(twin), 0);
        Check.due("read for nothing", x.count(9), 2);
        Check.throwsIndex("nothing was found", () -> x.got(0));
    }

    private static void oldValueIsNotLookedFor() {
        long[] k = Keys.ofSet(9, 2);
        TinyCache x = Drive.withSetPage(5, k[0], k[1]);
        Drive.put(x, k[0], 2, 77);
        Check.due("newest", x.get(k[0]), 2);
        Check.due("newest", x.got(1), 78);
        Check.due("the set's page was not read", x.count(9), 1);
    }
}
