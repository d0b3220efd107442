/** Promise 2: word. */
public final class Promise02WordTest {
    public static void main(String[] args) {
        oneBefore();
        outside();
        closedAndCrashed();
        Check.end();
    }

    private static Counted withWords(int first) {
        Counted x = new Counted();
        for (int i = 0; i < 8; i++) {
            Check.due("0 at first", x.word(i, first + i), 0);
        }
        return x;
    }

    private static void hasWords(String what, Counted x, int first) {
        for (int i = 0; i < 8; i++) {
            Check.due(what + ": word " + i, x.word(i, first + i), first + i);
        }
    }

    private static void oneBefore() {
        Counted x = withWords(100);
        hasWords("each its own", x, 100);
        for (int i : new int[] {0, 7}) {
            x.word(i, Integer.MIN_VALUE);
            Check.due("smallest", x.word(i, Integer.MAX_VALUE), Integer.MIN_VALUE);
            Check.due("largest", x.word(i, 0), Integer.MAX_VALUE);
        }
    }

    private static void outside() {
        Counted x = withWords(100);
        for (int i : new int[] {-1, 8, 9, Integer.MIN_VALUE, Integer.MAX_VALUE}) {
            Check.throwsIndex("word(" + i + ", 1)", () -> x.word(i, 1));
        }
        hasWords("left alone by wrong calls", x, 100);
    }

    private static void closedAndCrashed() {
        Counted x = withWords(100);
        x.close();
        hasWords("closed", x, 100);
        Check.throwsIndex("word(8, 1) closed", () -> x.word(8, 1));
        Check.throwsIndex("word(-1, 1) closed", () -> x.word(-1, 1));
        x.open();
        hasWords("open again", x, 100);
        x.crash();
        hasWords("crashed", x, 100);
        x.open();
        hasWords("open after a crash", x, 100);
    }
}
