/** Promise 1: an empty cache, open; the buffer's words are 0. */
public final class Promise01NewObjectTest {
    public static void main(String[] args) {
        isOpen();
        isEmpty();
        bufferIsZero();
        twoDoNotShare();
        Check.end();
    }

    private static void isOpen() {
        Check.throwsState("open() of a new one", () -> new Counted().open());
        Check.throwsNothing("put of a new one", () -> new Counted().put(1, 1));
        Check.throwsNothing("get of a new one", () -> new Counted().get(1));
        Check.throwsNothing("delete of a new one", () -> new Counted().delete(1));
        Check.throwsNothing("where of a new one", () -> new Counted().where(1));
        Check.throwsNothing("close of a new one", () -> new Counted().close());
        Check.throwsNothing("crash of a new one", () -> new Counted().crash());
    }

    private static void isEmpty() {
        Counted x = new Counted();
        for (long key = -3; key <= 3; key++) {
            Check.due("get", x.get(key), 0);
            Check.due("where", x.where(key), 0);
            Check.due("delete", x.delete(key), false);
        }
        Check.throwsIndex("got(0)", () -> x.got(0));
        Check.counts("new", x, new int[13]);
        Check.flash("new", Counted::new, new int[96][0]);
    }

    private static void bufferIsZero() {
        Counted x = new Counted();
        x.put(1, 8);
        x.get(1);
        for (int i = 0; i < 8; i++) {
            Check.due("put as 0", x.got(i), 0);
            Check.due("word " + i, x.word(i, 1), 0);
        }
    }

    private static void twoDoNotShare() {
        Counted x = new Counted();
        Drive.put(x, 5, 2, 7);
        Counted y = new Counted();
        Check.due("the other's get", y.get(5), 0);
        Check.due("the other's word", y.word(0, 1), 0);
        Check.due("its own word", x.word(0, 1), 7);
    }
}
