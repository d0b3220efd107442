/** Promise 4: get. */
public final class Promise04GetTest {
    public static void main(String[] args) {
        fromTheOpenPage();
        fromALogPage();
        fromTheSetsPage();
        filterWithoutTheKey();
        oldValueIsNotLookedFor();
        noneAnyMore();
        gotInAnyPageOfTheLog();
        onlyTheOneThatIsGotIsMarked();
        closed();
        Check.end();
    }

    private static void fromTheOpenPage() {
        Counted x = new Counted();
        Drive.put(x, Long.MIN_VALUE, 3, 1);
        Check.due("open page", x.get(Long.MIN_VALUE), 3);
        Check.due("another key", x.get(Long.MAX_VALUE), 0);
        Check.due("nothing is read", x.count(9), 0);
    }

    private static void fromALogPage() {
        Counted x = new Counted();
        Drive.put(x, 1, 8, 1);
        Drive.put(x, 2, 8, 21);
        Drive.put(x, 3, 8, 31);
        Check.due("log page", x.get(2), 8);
        Check.due("value", x.got(7), 28);
        Check.due("read", x.count(9), 1);
        x.get(2);
        Check.due("read again", x.count(9), 2);
        x.get(3);
        Check.due("open page is not read", x.count(9), 2);
    }

    private static void fromTheSetsPage() {
        long[] k = Keys.ofSet(9, 3);
        Counted x = Drive.withSetPage(5, k[0], k[1]);
        Check.due("read by moving", x.count(9), 1);
        Check.due("second of the page", x.get(k[1]), 5);
        Check.due("its value", x.got(4), (int) k[1] * 10 + 4);
        Check.due("read", x.count(9), 2);
        Check.due("without its bit", x.get(k[2]), 0);
        Check.due("not read", x.count(9), 2);
    }

    private static void filterWithoutTheKey() {
        long[] k = Keys.ofSet(9, 2);
        Counted x = Drive.withSetPage(5, k[0], k[1]);
        long twin = Keys.twin(k[0]);
        Check.due("its bit, but not there", x.get(twin), 0);
        Check.due("read for nothing", x.count(9), 2);
        Check.throwsIndex("nothing was found", () -> x.got(0));
    }

    private static void oldValueIsNotLookedFor() {
        long[] k = Keys.ofSet(9, 2);
        Counted x = Drive.withSetPage(5, k[0], k[1]);
        Drive.put(x, k[0], 2, 77);
        Check.due("newest", x.get(k[0]), 2);
        Check.due("newest", x.got(1), 78);
        Check.due("the set's page was not read", x.count(9), 1);
    }

    private static void noneAnyMore() {
        Counted x = new Counted();
        x.put(1, 8);
        x.delete(1);
        Check.due("deleted", x.get(1), 0);
        x.put(Keys.ofSet(9), 8);
        Drive.fillSegments(x, 9);
        Check.due("dropped", x.get(Keys.ofSet(9)), 0);
        Check.due("nothing read", x.count(9), 0);
    }

    private static void gotInAnyPageOfTheLog() {
        // Behind no filler it is in the open page when it is got, behind more in a written one.
        for (int fillers = 0; fillers < 66; fillers++) {
            Counted x = new Counted();
            x.put(Keys.ofSet(9), 8);
            Drive.fill(x, fillers);
            Check.due("there behind " + fillers, x.get(Keys.ofSet(9)), 8);
            Check.due("read behind " + fillers, x.count(9), fillers < 2 ? 0 : 1);
            Drive.fill(x, 66 - fillers);
            Check.due("got behind " + fillers, x.count(10), 1);
        }
    }

    private static void onlyTheOneThatIsGotIsMarked() {
        long[] k = Keys.ofSet(9, 6);
        for (int marked = 0; marked < 4; marked++) {
            Counted x = Drive.withSetPage(5, k[0], k[1], k[2], k[3]);
            x.get(k[marked]);
            Drive.putAll(x, 8, k[4], k[5]);
            Drive.fillSegments(x, 18);
            // 32 words and 22 more: three of 8 words go, all of them without a mark.
            for (int i = 0; i < 4; i++) {
                Check.due("number " + i + " when " + marked + " is marked", x.where(k[i]), i == marked ? 2 : 0);
            }
            Check.due("without marks", x.count(5), 3);
        }
    }

    private static void closed() {
        Counted x = new Counted();
        Drive.put(x, 1, 2, 5);
        x.get(1);
        x.close();
        Check.throwsState("get closed, of what is there", () -> x.get(1));
        Check.throwsState("get closed, of what is not there", () -> x.get(2));
        Check.due("what was found before is kept", x.got(1), 6);
        x.open();
        Check.due("open again", x.get(1), 2);
        x.crash();
        Check.throwsState("get behind a crash", () -> x.get(1));
    }
}
