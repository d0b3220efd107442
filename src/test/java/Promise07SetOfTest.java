/** Promise 7: setOf, and the mixing. */
public final class Promise07SetOfTest {
    public static void main(String[] args) {
        TinyCache x = new TinyCache();
        Check.due("setOf(0)", x.setOf(0), 0);
        Check.due("setOf(5)", x.setOf(5), 45);
        Check.due("setOf(-1)", x.setOf(-1), 45);
        for (long key = -500; key <= 500; key++) {
            Check.due("setOf(" + key + ")", x.setOf(key), Keys.set(key));
        }
        for (int shift = 0; shift < 64; shift++) {
            Check.due("setOf(1L << " + shift + ")", x.setOf(1L << shift), Keys.set(1L << shift));
            Check.due("setOf(-1L >>> " + shift + ")", x.setOf(-1L >>> shift), Keys.set(-1L >>> shift));
        }
        x.close();
        Check.due("closed", x.setOf(5), 45);
        x.open();
        x.crash();
        Check.due("after a crash", x.setOf(5), 45);
        Check.end();
    }
}
