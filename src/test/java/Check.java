import java.util.function.Supplier;

/** Compares answers with what is due; a test ends with end(). */
final class Check {
    private static int wrong = 0;

    private Check() {
    }

    static void due(String what, long got, long want) {
        if (got != want) {
            wrong++;
            System.out.println(what + " answered " + got + ", due is " + want);
        }
    }

    static void due(String what, boolean got, boolean want) {
        due(what, got ? 1 : 0, want ? 1 : 0);
    }

    static void throwsNothing(String what, Runnable call) {
        due(what + " throws (kind)", thrownBy(call), Call.NOTHING);
    }

    static void throwsState(String what, Runnable call) {
        due(what + " throws (kind)", thrownBy(call), Call.STATE);
    }

    static void throwsArgument(String what, Runnable call) {
        due(what + " throws (kind)", thrownBy(call), Call.ARGUMENT);
    }

    static void throwsIndex(String what, Runnable call) {
        due(what + " throws (kind)", thrownBy(call), Call.INDEX);
    }

    private static long thrownBy(Runnable call) {
        try {
            call.run();
            return Call.NOTHING;
        } catch (RuntimeException e) {
            return Call.thrown(e);
        }
    }

    /** All thirteen counts at once. */
    static void counts(String what, Face x, int... want) {
        for (int i = 0; i < want.length; i++) {
            due(what + ": count(" + i + ")", x.count(i), want[i]);
        }
    }

    /** The words of a page on flash, with nothing but 0 behind them. */
    static void page(String what, Face x, int p, int... want) {
        for (int i = 0; i < 32; i++) {
            due(what + ": flash(" + p + ", " + i + ")", x.flash(p, i), i < want.length ? want[i] : 0);
        }
    }

    /** A page that Drive.withSetPage(1, keys) made, without one of its objects. */
    static void pageOfAllBut(String what, Face x, int p, long[] keys, int out) {
        int[] want = new int[(keys.length - 1) * 4];
        int at = 0;
        for (int i = 0; i < keys.length; i++) {
            if (i != out) {
                want[at] = 1;
                want[at + 2] = (int) keys[i];
                want[at + 3] = (int) keys[i] * 10;
                at += 4;
            }
        }
        page(what + ", all but number " + out, x, p, want);
    }

    /** All pages of flash, four of each cache that is made: more would be too many calls. */
    static void flash(String what, Supplier<? extends Face> made, int[][] want) {
        for (int first = 0; first < want.length; first += 4) {
            Face x = made.get();
            for (int p = first; p < first + 4; p++) {
                page(what, x, p, want[p]);
            }
        }
    }

    static void end() {
        if (wrong != 0) {
            System.exit(1);
        }
    }
}
