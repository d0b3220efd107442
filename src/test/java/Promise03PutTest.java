/** Promise 3: put. How the open page is filled is FullPageTest's. */
public final class Promise03PutTest {
    public static void main(String[] args) {
        wrongLengths();
        closed();
        everyLength();
        valueIsOfThatTime();
        newestCounts();
        oldOneOfTheSameKeyMovesFirst();
        Check.end();
    }

    private static void wrongLengths() {
        Counted x = new Counted();
        Drive.put(x, 1, 2, 5);
        for (int n : new int[] {0, 9, -1, Integer.MIN_VALUE, Integer.MAX_VALUE}) {
            Check.throwsArgument("put(1, " + n + ")", () -> x.put(1, n));
            Check.throwsArgument("put(2, " + n + ")", () -> x.put(2, n));
        }
        Check.due("nothing was put", x.where(2), 0);
        Check.due("nothing was put", x.count(12), 5);
        Check.due("the value before is there", x.get(1), 2);
        Check.due("the value before is there", x.got(1), 6);
    }

    private static void closed() {
        Counted x = new Counted();
        x.close();
        for (int n : new int[] {1, 8, 0, 9, -1, Integer.MIN_VALUE, Integer.MAX_VALUE}) {
            Check.throwsState("put closed, " + n, () -> x.put(1, n));
        }
        Check.due("nothing was put closed", x.open(), 0);
        Check.due("nothing was put closed", x.count(12), 0);
    }

    private static void everyLength() {
        for (int n = 1; n <= 8; n++) {
            Counted x = new Counted();
            // All eight words of the buffer are there, but the value has the first n alone.
            Drive.put(x, 77, 8, 40);
            x.delete(77);
            x.put(-n, n);
            Check.due("length", x.get(-n), n);
            for (int i = 0; i < n; i++) {
                Check.due("word of the value", x.got(i), 40 + i);
            }
            int last = n;
            Check.throwsIndex("the buffer's other words", () -> x.got(last));
            Check.due("words with the header", x.count(12), 11 + n + 3);
        }
    }

    private static void valueIsOfThatTime() {
        Counted x = new Counted();
        Drive.put(x, 1, 2, 10);
        x.word(0, 99);
        x.get(1);
        Check.due("the value is a copy", x.got(0), 10);
    }

    private static void newestCounts() {
        Counted x = new Counted();
        Drive.put(x, 1, 3, 10);
        x.get(1);
        Drive.put(x, 1, 2, 20);
        Check.due("one in the index", x.count(11), 1);
        Check.due("what it was stays in the page", x.count(12), 11);
        Check.due("newest", x.get(1), 2);
        Check.due("newest", x.got(0), 20);
    }

    // The page is written first; so long the older value is the key's object.
    private static void oldOneOfTheSameKeyMovesFirst() {
        long[] k = Keys.ofSet(7, 2);
        Counted x = new Counted();
        Drive.put(x, k[0], 8, 100);
        Drive.put(x, k[1], 8, 200);
        Drive.fill(x, 64);
        Check.due("not emptied yet", x.count(4), 0);
        Drive.put(x, k[0], 8, 300);
        Check.due("only the new one is open", x.count(12), 11);
        Check.due("both moved", x.count(4), 2);
        Check.due("the old one is in the set's page", x.flash(7, 3), 100);
        Check.due("the new one is in the log", x.where(k[0]), 1);
        Check.due("the new one is got", x.get(k[0]), 8);
        Check.due("the new one is got", x.got(0), 300);
    }
}
