/** Promise 5: got. */
public final class Promise05GotTest {
    public static void main(String[] args) {
        beforeAnyGet();
        everyLength();
        ofTheLastGet();
        nothingFound();
        keptWhateverBecomesOfIt();
        closedAndCrashed();
        Check.end();
    }

    private static void noWord(String what, Counted x, int i) {
        Check.throwsIndex(what + ": got(" + i + ")", () -> x.got(i));
    }

    private static void beforeAnyGet() {
        Counted x = new Counted();
        noWord("new", x, 0);
        Drive.put(x, 1, 3, 5);
        x.where(1);
        noWord("put, not got", x, 0);
    }

    private static void everyLength() {
        for (int n = 1; n <= 8; n++) {
            Counted x = new Counted();
            Drive.put(x, 1, n, 50);
            x.get(1);
            Check.due("first", x.got(0), 50);
            Check.due("last", x.got(n - 1), 50 + n - 1);
            for (int i : new int[] {-1, n, n + 1, 8, Integer.MIN_VALUE, Integer.MAX_VALUE}) {
                noWord(n + " words", x, i);
            }
            Check.due("still there", x.got(n - 1), 50 + n - 1);
        }
    }

    private static void ofTheLastGet() {
        Counted x = new Counted();
        Drive.put(x, 1, 3, 5);
        Drive.put(x, 2, 1, 50);
        x.get(1);
        x.get(2);
        Check.due("the last one", x.got(0), 50);
        noWord("one word alone", x, 1);
        x.get(1);
        Check.due("the first again", x.got(2), 7);
    }

    private static void nothingFound() {
        long[] k = Keys.ofSet(6, 3);
        long[] absent = {k[2], Keys.twin(k[0])};
        for (long key : absent) {
            Counted x = Drive.withSetPage(2, k[0], k[1]);
            Check.due("there", x.get(k[0]), 2);
            Check.due("nothing, by the filter or by the page", x.get(key), 0);
            for (int i : new int[] {0, 1, 7, -1}) {
                noWord("nothing found", x, i);
            }
        }
    }

    private static void keptWhateverBecomesOfIt() {
        long key = Keys.ofSet(6);
        Counted x = new Counted();
        Drive.put(x, key, 3, 5);
        x.get(key);
        x.where(2);
        Drive.put(x, key, 1, 9);
        Check.due("a newer value was put", x.got(2), 7);
        x.delete(key);
        Check.due("deleted", x.got(2), 7);
        Drive.fillSegments(x, 17);
        Check.due("its page was written over", x.got(2), 7);
        Check.throwsArgument("put of no word", () -> x.put(key, 0));
        Check.due("another call was refused", x.got(0), 5);
    }

    private static void closedAndCrashed() {
        Counted x = new Counted();
        Drive.put(x, 1, 2, 5);
        x.get(1);
        x.close();
        Check.due("kept when closed", x.got(0), 5);
        noWord("closed", x, 2);
        Check.throwsState("get closed", () -> x.get(2));
        Check.due("kept when get threw", x.got(1), 6);
        x.open();
        Check.due("kept when open again", x.got(0), 5);
        x.crash();
        noWord("crashed", x, 0);
        x.open();
        noWord("open after a crash", x, 0);
    }
}
