/** Promise 1: an empty cache, open; the buffer's words are 0. */
public final class Promise01NewObjectTest {
    public static void main(String[] args) {
        TinyCache x = new TinyCache();
        Check.throwsState("open() of a new one", x::open);
        Check.throwsNothing("get(1) of a new one", () -> x.get(1));
        for (long key = -3; key <= 3; key++) {
            Check.due("get", x.get(key), 0);
            Check.due("where", x.where(key), 0);
            Check.due("delete", x.delete(key), false);
        }
        for (int i = 0; i < 8; i++) {
            Check.due("word " + i, x.word(i, 1), 0);
        }
        Check.counts("new", x, new int[13]);
        for (int p = 0; p < 96; p++) {
            Check.page("new", x, p);
        }
        twoDoNotShare();
        Check.end();
    }

    private static void twoDoNotShare() {
        TinyCache x = new TinyCache();
        Drive.put(x, 5, 2, 7);
        TinyCache y = new TinyCache();
        Check.due("the other's get", y.get(5), 0);
        Check.due("the other's word", y.word(0, 1), 0);
        Check.due("its own word", x.word(0, 1), 7);
    }
}
