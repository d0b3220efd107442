/** Promise 11: crash keeps nothing but the buffer. */
public final class Promise11CrashTest {
    private static final long[] K = Keys.ofSet(3, 3);

    public static void main(String[] args) {
        isClosed();
        isEmpty();
        bufferIsKept();
        refusedWhenClosed();
        noFilterIsLeft();
        everyPageIsWiped();
        noSetHasAnObjectLeft();
        beginsAgain();
        Check.end();
    }

    private static Counted crashed() {
        Counted x = Drive.withSetPage(8, K[0], K[1]);
        x.get(K[0]);
        x.delete(K[1]);
        Drive.put(x, K[2], 8, 4711);
        x.crash();
        return x;
    }

    private static Counted openAgain() {
        Counted x = crashed();
        Check.due("none in the index", x.open(), 0);
        return x;
    }

    private static void isClosed() {
        Counted x = crashed();
        Check.throwsState("crash closed", x::crash);
        Check.throwsState("close closed", x::close);
        Check.throwsState("put closed", () -> x.put(1, 1));
        Check.throwsState("get closed", () -> x.get(K[0]));
        Check.throwsState("delete closed", () -> x.delete(K[0]));
        Check.throwsState("where closed", () -> x.where(K[0]));
        Check.throwsNothing("open", x::open);
    }

    private static void isEmpty() {
        Check.counts("closed", crashed(), new int[13]);
        Check.flash("closed", Promise11CrashTest::crashed, new int[96][0]);
        Check.counts("open", openAgain(), new int[13]);
        Check.flash("open", Promise11CrashTest::openAgain, new int[96][0]);
        Check.throwsIndex("got(0) closed", () -> crashed().got(0));
        Check.throwsIndex("got(0) open", () -> openAgain().got(0));
        Counted x = openAgain();
        for (long key : new long[] {K[0], K[1], K[2], Drive.FILLER}) {
            Check.due("nowhere", x.where(key), 0);
            Check.due("gone", x.get(key), 0);
            Check.due("gone", x.delete(key), false);
        }
    }

    private static void bufferIsKept() {
        Counted x = crashed();
        for (int i = 0; i < 8; i++) {
            Check.due("word " + i, x.word(i, 0), 4711 + i);
        }
        Counted y = openAgain();
        y.put(1, 8);
        y.get(1);
        Check.due("it is what is put", y.got(7), 4718);
    }

    // A closed one keeps all that it has, though crash() was called.
    private static void refusedWhenClosed() {
        Counted x = Drive.withSetPage(8, K[0], K[1]);
        x.get(K[0]);
        x.close();
        Check.throwsState("crash closed", x::crash);
        Check.due("what was got is there", x.got(0), (int) K[0] * 10);
        Check.due("its flash is there", x.flash(3, 0), 8);
        Check.due("its counts are there", x.count(0), 9);
        Check.due("its index is there", x.open(), 1);
        Check.due("its set's page is there", x.where(K[1]), 2);
    }

    private static void noFilterIsLeft() {
        Counted x = openAgain();
        Check.due("gone", x.get(K[0]), 0);
        Check.due("nothing read", x.count(9), 0);
        Check.due("gone", x.delete(K[0]), false);
        Check.due("nothing read", x.count(9), 0);
    }

    /** Each set's page has two objects, and each page of the log is written. */
    private static Counted fullFlash() {
        Counted x = new Counted();
        for (int set = 0; set < 64; set++) {
            Drive.putAll(x, 1, Keys.ofSet(set, 2));
        }
        Drive.fill(x, 97);
        return x;
    }

    private static Counted fullFlashCrashed() {
        Counted x = fullFlash();
        x.crash();
        return x;
    }

    private static void everyPageIsWiped() {
        Counted x = fullFlash();
        for (int p = 0; p < 96; p++) {
            Check.due("page " + p + " has an object", x.flash(p, 0) != 0, true);
        }
        Check.flash("every page had an object", Promise11CrashTest::fullFlashCrashed, new int[96][0]);
    }

    // What was in the index before is not there to be gathered with what comes now.
    private static void noSetHasAnObjectLeft() {
        Counted x = new Counted();
        x.put(K[0], 8);
        x.crash();
        x.open();
        x.put(K[1], 8);
        x.get(K[1]);
        Drive.fillSegments(x, 9);
        Check.due("one alone", x.count(10), 1);
        Check.due("none is gathered", x.count(4), 0);
    }

    // The log is written from its first page on again, and no segment of it counts as written before.
    private static void beginsAgain() {
        Counted x = openAgain();
        Drive.put(x, K[0], 8, 100);
        Drive.put(x, K[2], 8, 200);
        Drive.fill(x, 1);
        Check.due("the first page", x.flash(64, 3), 100);
        Drive.fill(x, 63);
        Check.due("eight segments", x.count(0), 8);
        Check.due("nothing emptied yet", x.count(1), 0);
        Check.due("both and the filler", x.count(11), 3);
        Drive.fill(x, 1);
        Check.due("emptied now", x.count(1), 1);
        Check.due("moved", x.where(K[2]), 2);
    }
}
