/** Promise 2: word. */
public final class Promise02WordTest {
    public static void main(String[] args) {
        TinyCache x = new TinyCache();
        for (int i = 0; i < 8; i++) {
            Check.due("first", x.word(i, 100 + i), 0);
        }
        for (int i = 0; i < 8; i++) {
            Check.due("second", x.word(i, -i), 100 + i);
        }
        Check.due("smallest", x.word(3, Integer.MIN_VALUE), -3);
        Check.due("largest", x.word(3, Integer.MAX_VALUE), Integer.MIN_VALUE);
        for (int i : new int[] {-1, 8, 9, Integer.MIN_VALUE, Integer.MAX_VALUE}) {
            Check.throwsIndex("word(" + i + ", 1)", () -> x.word(i, 1));
        }
        Check.due("left alone by wrong calls", x.word(0, 5), 0);
        x.close();
        Check.due("closed", x.word(0, 6), 5);
        Check.throwsIndex("word(8, 1) closed", () -> x.word(8, 1));
        x.open();
        x.crash();
        Check.due("after a crash", x.word(0, 7), 6);
        Check.due("after a crash", x.word(3, 7), Integer.MAX_VALUE);
        Check.end();
    }
}
