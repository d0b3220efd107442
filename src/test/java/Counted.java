/** A TinyCache for tests that takes no more calls than the document promises answers for. */
final class Counted implements Face {
    static final int CALLS = 512;
    private final TinyCache cache = new TinyCache();
    private int calls = 0;

    private TinyCache next() {
        calls++;
        if (calls > CALLS) {
            throw new UnsupportedOperationException("a test's fault: answers are free from here on");
        }
        return cache;
    }

    @Override
    public int word(int i, int v) {
        return next().word(i, v);
    }

    @Override
    public void put(long key, int n) {
        next().put(key, n);
    }

    @Override
    public int get(long key) {
        return next().get(key);
    }

    @Override
    public int got(int i) {
        return next().got(i);
    }

    @Override
    public boolean delete(long key) {
        return next().delete(key);
    }

    @Override
    public int setOf(long key) {
        return next().setOf(key);
    }

    @Override
    public int where(long key) {
        return next().where(key);
    }

    @Override
    public int flash(int p, int i) {
        return next().flash(p, i);
    }

    @Override
    public void close() {
        next().close();
    }

    @Override
    public void crash() {
        next().crash();
    }

    @Override
    public int open() {
        return next().open();
    }

    @Override
    public int count(int what) {
        return next().count(what);
    }
}
