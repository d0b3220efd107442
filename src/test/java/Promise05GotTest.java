/** Promise 5: got. */
public final class Promise05GotTest {
    public static void main(String[] args) {
        TinyCache x = new TinyCache();
        Check.throwsIndex("got(0) before any get", () -> x.got(0));
        Drive.put(x, 1, 3, 5);
        Drive.put(x, 2, 1, 50);
        Check.throwsIndex("got(0) before any get", () -> x.got(0));
        x.get(1);
        for (int i = 0; i < 3; i++) {
            Check.due("got", x.got(i), 5 + i);
        }
        for (int i : new int[] {-1, 3, 7, 8, Integer.MIN_VALUE, Integer.MAX_VALUE}) {
            Check.throwsIndex("got(" + i + ")", () -> x.got(i));
        }
        x.where(2);
        Drive.put(x, 1, 1, 9);
        x.delete(1);
        Check.due("kept, whatever became of it", x.got(2), 7);
        x.close();
        Check.due("kept when closed", x.got(0), 5);
        Check.throwsState("get closed", () -> x.get(2));
        Check.due("kept when get threw", x.got(0), 5);
        x.open();
        Check.due("kept when open again", x.got(0), 5);
        Check.due("found nothing", x.get(3), 0);
        Check.throwsIndex("got(0) when nothing was found", () -> x.got(0));
        x.get(2);
        Check.due("the last one", x.got(0), 50);
        Check.throwsIndex("got(1) of one word", () -> x.got(1));
        x.crash();
        Check.throwsIndex("got(0) after a crash", () -> x.got(0));
        Check.end();
    }
}
