import java.util.ArrayList;
import java.util.List;

/** Promise 7: setOf, and the mixing. */
public final class Promise07SetOfTest {
    public static void main(String[] args) {
        Counted x = new Counted();
        Check.due("setOf(0)", x.setOf(0), 0);
        Check.due("setOf(5)", x.setOf(5), 45);
        Check.due("setOf(-1)", x.setOf(-1), 45);
        for (long key : keys()) {
            Check.due("setOf(" + key + ")", new Counted().setOf(key), Keys.set(key));
        }
        everySet();
        whateverTheState();
        Check.end();
    }

    private static List<Long> keys() {
        List<Long> keys = new ArrayList<>();
        for (long key = -500; key <= 500; key++) {
            keys.add(key);
            keys.add(Long.MIN_VALUE + 500 + key);
            keys.add(Long.MAX_VALUE - 500 + key);
        }
        for (int shift = 0; shift < 64; shift++) {
            keys.add(1L << shift);
            keys.add(-1L >>> shift);
            keys.add(-1L << shift);
        }
        return keys;
    }

    private static void everySet() {
        Counted x = new Counted();
        for (int set = 0; set < 64; set++) {
            Check.due("a key of set " + set, x.setOf(Keys.ofSet(set)), set);
        }
    }

    private static void whateverTheState() {
        Counted x = new Counted();
        x.put(5, 8);
        Check.due("of a key that is there", x.setOf(5), 45);
        x.close();
        Check.due("closed", x.setOf(5), 45);
        x.open();
        x.crash();
        Check.due("after a crash", x.setOf(5), 45);
        Check.due("open again", x.open(), 0);
    }
}
