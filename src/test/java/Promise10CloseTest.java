/** Promise 10: close keeps the open page and what else is in memory. */
public final class Promise10CloseTest {
    public static void main(String[] args) {
        refusedWhenClosed();
        openPageAndIndexAreKept();
        whatWasGotIsKept();
        marksAndFiltersAreKept();
        placeInTheLogIsKept();
        Check.end();
    }

    private static void refusedWhenClosed() {
        Counted x = new Counted();
        Drive.put(x, 1, 2, 5);
        x.close();
        Check.throwsState("close closed", x::close);
        Check.throwsState("crash closed", x::crash);
        Check.throwsState("put closed", () -> x.put(1, 1));
        Check.throwsState("get closed", () -> x.get(1));
        Check.throwsState("delete closed", () -> x.delete(1));
        Check.throwsState("where closed", () -> x.where(1));
        Check.due("once open again, all is there", x.open(), 1);
        Check.due("and its value", x.get(1), 2);
        Check.throwsNothing("closed a second time", x::close);
        Check.throwsState("close closed", x::close);
    }

    private static void openPageAndIndexAreKept() {
        Counted x = new Counted();
        Drive.put(x, 1, 2, 5);
        x.get(1);
        x.close();
        Check.due("words of the open page", x.count(12), 5);
        Check.due("in the index", x.count(11), 1);
        Check.page("nothing is written", x, 64);
        x.open();
        Check.due("words of the open page", x.count(12), 5);
        Check.due("there", x.get(1), 2);
        Check.due("there", x.got(1), 6);
        Check.due("not read: the page is open", x.count(9), 0);
        Check.page("nothing is written", x, 64);
    }

    private static void placeInTheLogIsKept() {
        Counted x = new Counted();
        Drive.fill(x, 66);
        x.close();
        x.open();
        x.word(0, 7);
        Drive.fill(x, 1);
        Check.due("the log goes on at its first page", x.flash(64, 2), (int) Drive.FILLER);
        Check.due("eight segments", x.count(0), 8);
        Drive.fill(x, 2);
        Check.due("and then at its second", x.flash(65, 3), 7);
    }

    private static void whatWasGotIsKept() {
        Counted x = new Counted();
        long key = Keys.ofSet(3);
        Drive.put(x, key, 8, 5);
        x.get(key);
        x.close();
        x.open();
        Drive.fillSegments(x, 9);
        Check.due("put anew", x.count(10), 1);
    }

    private static void marksAndFiltersAreKept() {
        long[] k = Keys.ofSet(3, 4);
        Counted x = Drive.withSetPage(8, k[0], k[1]);
        x.get(k[0]);
        x.close();
        x.open();
        Check.due("no bit, no reading", x.get(k[2]), 0);
        Check.due("moving and the get before", x.count(9), 2);
        Drive.put(x, k[2], 8, 1);
        Drive.put(x, k[3], 1, 1);
        Drive.fillSegments(x, 18);
        Check.due("the marked one stays", x.where(k[0]), 2);
        Check.due("the unmarked one goes", x.where(k[1]), 0);
    }
}
