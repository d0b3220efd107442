/** Promise 11: crash keeps nothing but the buffer. */
public final class Promise11CrashTest {
    public static void main(String[] args) {
        long[] k = Keys.ofSet(3, 3);
        TinyCache x = Drive.withSetPage(8, k[0], k[1]);
        x.get(k[0]);
        x.delete(k[1]);
        x.word(0, 4711);
        x.crash();
        Check.throwsState("crash closed", x::crash);
        Check.throwsState("close closed", x::close);
        Check.throwsState("get closed", () -> x.get(k[0]));
        isEmpty("closed", x);
        Check.due("open()", x.open(), 0);
        isEmpty("open", x);
        Check.due("gone", x.get(k[0]), 0);
        Check.due("gone", x.where(Drive.FILLER), 0);
        Check.due("no filter: nothing read", x.count(9), 0);
        Check.due("the buffer", x.word(0, 1), 4711);
        beginsAgain(x, k);
        Check.end();
    }

    private static void isEmpty(String what, TinyCache x) {
        Check.counts(what, x, new int[13]);
        for (int p = 0; p < 96; p++) {
            Check.page(what, x, p);
        }
        Check.throwsIndex("got(0)", () -> x.got(0));
    }

    // The log is written from its first page on again, and no segment of it counts as written before.
    private static void beginsAgain(TinyCache x, long[] k) {
        Drive.put(x, k[0], 8, 100);
        Drive.put(x, k[2], 8, 200);
        Drive.fill(x, 1);
        Check.due("the first page", x.flash(64, 3), 100);
        Drive.fill(x, 63);
        Check.due("eight segments", x.count(0), 8);
        Check.due("nothing emptied yet", x.count(1), 0);
        Check.due("both and the filler", x.count(11), 3);
        Drive.fill(x, 1);
        Check.due("emptied now", x.count(1), 1);
        Check.due("moved", x.where(k[2]), 2);
    }
}
