/** Compares answers with what is due; a test ends with end(). */
final class Check {
    private static final int NOTHING = 0;
    private static final int STATE = 1;
    private static final int ARGUMENT = 2;
    private static final int INDEX = 3;
    private static final int ANOTHER = 4;
    private static int wrong = 0;

    private Check() {
    }

    static void due(String what, long got, long want) {
        if (got != want) {
            wrong++;
            System.out.println(what + " answered " + got + ", due is " + want);
        }
    }

    static void due(String what, boolean got, boolean want) {
        due(what, got ? 1 : 0, want ? 1 : 0);
    }

    static void throwsNothing(String what, Runnable call) {
        due(what + " throws (kind)", thrownBy(call), NOTHING);
    }

    static void throwsState(String what, Runnable call) {
        due(what + " throws (kind)", thrownBy(call), STATE);
    }

    static void throwsArgument(String what, Runnable call) {
        due(what + " throws (kind)", thrownBy(call), ARGUMENT);
    }

    static void throwsIndex(String what, Runnable call) {
        due(what + " throws (kind)", thrownBy(call), INDEX);
    }

    private static int thrownBy(Runnable call) {
        try {
            call.run();
            return NOTHING;
        } catch (RuntimeException e) {
            // The very class is asked for: a subclass thrown by the JVM would be a fault.
            if (e.getClass() == IllegalStateException.class) {
                return STATE;
            }
            if (e.getClass() == IllegalArgumentException.class) {
                return ARGUMENT;
            }
            return e.getClass() == IndexOutOfBoundsException.class ? INDEX : ANOTHER;
        }
    }

    /** All thirteen counts at once. */
    static void counts(String what, TinyCache x, int... want) {
        for (int i = 0; i < want.length; i++) {
            due(what + ": count(" + i + ")", x.count(i), want[i]);
        }
    }

    /** The words of a page on flash, with nothing but 0 behind them. */
    static void page(String what, TinyCache x, int p, int... want) {
        for (int i = 0; i < 32; i++) {
            due(what + ": flash(" + p + ", " + i + ")", x.flash(p, i), i < want.length ? want[i] : 0);
        }
    }

    static void end() {
        if (wrong != 0) {
            System.exit(1);
        }
    }
}
