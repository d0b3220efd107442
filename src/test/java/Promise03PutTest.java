/** Promise 3: put, and the open page. */
public final class Promise03PutTest {
    public static void main(String[] args) {
        wrongInputs();
        everyLength();
        valueIsOfThatTime();
        pageIsFilledToItsLastWord();
        newestCounts();
        oldOneOfTheSameKeyMovesFirst();
        Check.end();
    }

    private static void wrongInputs() {
        TinyCache x = new TinyCache();
        for (int n : new int[] {0, 9, -1, Integer.MIN_VALUE, Integer.MAX_VALUE}) {
            Check.throwsArgument("put(1, " + n + ")", () -> x.put(1, n));
        }
        Check.due("nothing was put", x.where(1), 0);
        Check.due("nothing was put", x.count(12), 0);
        x.close();
        Check.throwsState("put closed", () -> x.put(1, 1));
        Check.throwsState("put closed, wrong length", () -> x.put(1, 0));
        x.open();
        Check.due("nothing was put closed", x.count(11), 0);
    }

    private static void everyLength() {
        for (int n = 1; n <= 8; n++) {
            TinyCache x = new TinyCache();
            Drive.put(x, -n, n, 40);
            Check.due("length", x.get(-n), n);
            for (int i = 0; i < n; i++) {
                Check.due("word of the value", x.got(i), 40 + i);
            }
            Check.due("words with the header", x.count(12), n + 3);
        }
    }

    private static void valueIsOfThatTime() {
        TinyCache x = new TinyCache();
        Drive.put(x, 1, 2, 10);
        x.word(0, 99);
        x.get(1);
        Check.due("the value is a copy", x.got(0), 10);
    }

    private static void pageIsFilledToItsLastWord() {
        TinyCache x = new TinyCache();
        for (int k = 1; k <= 8; k++) {
            Drive.put(x, k, 1, k);
        }
        Check.due("32 words are open", x.count(12), 32);
        Check.page("not written yet", x, 64);
        Drive.put(x, 9, 1, 9);
        Check.due("an empty page was open", x.count(12), 4);
        Check.page("written", x, 64, 1, 0, 1, 1, 1, 0, 2, 2, 1, 0, 3, 3, 1, 0, 4, 4,
                1, 0, 5, 5, 1, 0, 6, 6, 1, 0, 7, 7, 1, 0, 8, 8);
        Check.page("the next is not", x, 65);
        Check.due("all are in the index", x.count(11), 9);
    }

    private static void newestCounts() {
        TinyCache x = new TinyCache();
        Drive.put(x, 1, 3, 10);
        x.get(1);
        Drive.put(x, 1, 2, 20);
        Check.due("one in the index", x.count(11), 1);
        Check.due("what it was stays in the page", x.count(12), 11);
        Check.due("newest", x.get(1), 2);
        Check.due("newest", x.got(0), 20);
    }

    // The page is written first; so long the older value is the key's object.
    private static void oldOneOfTheSameKeyMovesFirst() {
        long[] k = Keys.ofSet(7, 2);
        TinyCache x = new TinyCache();
        Drive.put(x, k[0], 8, 100);
        Drive.put(x, k[1], 8, 200);
        Drive.fill(x, 64);
        Check.due("not emptied yet", x.count(4), 0);
        Drive.put(x, k[0], 8, 300);
        Check.due("only the new one is open", x.count(12), 11);
        Check.due("both moved", x.count(4), 2);
        Check.due("the old one is in the set's page", x.flash(7, 3), 100);
        Check.due("the new one is in the log", x.where(k[0]), 1);
        Check.due("the new one is got", x.get(k[0]), 8);
        Check.due("the new one is got", x.got(0), 300);
    }
}
