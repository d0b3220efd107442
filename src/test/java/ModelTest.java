/** Long runs of mixed calls on the class and on the model: all answers are the same. */
public final class ModelTest {
    private static final int RUNS = 240;
    private static final int CALLS = 512;
    // Sums over all runs: a run that never came to something would not test it.
    private static final long[] reached = new long[11];
    private static int mostEmptiedByOnePut = 0;
    private static long seed = 20261115;

    public static void main(String[] args) {
        for (int run = 0; run < RUNS; run++) {
            run(run, keysOf(run));
        }
        for (int what = 0; what < reached.length; what++) {
            Check.due("the runs come to count " + what, reached[what] > 0, true);
        }
        Check.due("one put empties two segments", mostEmptiedByOnePut >= 2, true);
        Check.end();
    }

    /** A random number below a bound, the same in each run of the test. */
    private static int below(int bound) {
        seed = seed * 6364136223846793005L + 1442695040888963407L;
        return (int) ((seed >>> 33) % bound);
    }

    private static long[] keysOf(int run) {
        switch (run % 6) {
            case 0:
                return someKeys(6 + below(30));
            case 1:
                return someKeys(60 + below(200));
            case 2:
                return keysOfFewSets(2 + below(3), 8);
            case 3:
                return keysOfFewSets(8 + below(8), 4);
            case 4:
                return keysOfFewSets(24 + below(36), 1);
            default:
                return withTwins(keysOfFewSets(3, 3));
        }
    }

    private static long[] someKeys(int n) {
        long[] keys = new long[n];
        for (int i = 0; i < n; i++) {
            keys[i] = ((long) below(1 << 30) << 34) ^ below(1 << 30) - (1L << 29);
        }
        return keys;
    }

    private static long[] keysOfFewSets(int sets, int each) {
        long[] keys = new long[sets * each];
        for (int s = 0; s < sets; s++) {
            System.arraycopy(Keys.ofSet(s * 64 / sets, each), 0, keys, s * each, each);
        }
        return keys;
    }

    private static long[] withTwins(long[] keys) {
        long[] all = new long[keys.length * 2];
        for (int i = 0; i < keys.length; i++) {
            all[i] = keys[i];
            all[keys.length + i] = Keys.twin(keys[i]);
        }
        return all;
    }

    private static void run(int run, long[] keys) {
        TinyCache x = new TinyCache();
        Model m = new Model();
        int largest = below(3) == 0 ? 8 : 1 + below(8);
        int smallest = 1 + below(largest);
        int putsOfTen = 4 + below(5);
        boolean crashes = run % 8 == 7;
        // Scanning runs put each key in turn and get it: many are alone and got then. Where
        // each has a set of its own they come once, in full pages, and the first few follow.
        boolean oncePerSet = run % 6 == 4;
        boolean scans = run % 3 == 0 || oncePerSet;
        if (oncePerSet && run % 4 == 0) {
            smallest = 8;
            largest = 8;
        }
        for (int call = 0; call < CALLS; call++) {
            String what = "run " + run + ", call " + call;
            int turn = oncePerSet && call / 2 >= keys.length ? below(3) : call / 2 % keys.length;
            long key = keys[scans ? turn : below(keys.length)];
            int n = smallest + below(largest - smallest + 1);
            if (m.closed) {
                m.closed = false;
                Check.due(what + " open", x.open(), m.index.size());
            } else if (scans && below(50) != 0) {
                if (call % 2 == 0) {
                    put(x, m, key, n, call);
                } else {
                    get(what, x, m, key);
                }
            } else if (below(10) < putsOfTen) {
                put(x, m, key, n, call);
            } else {
                otherCall(what, x, m, key, crashes);
            }
            compareCounts(what, x, m);
            if (call % 32 == 31) {
                compareFlash(what, x, m);
            }
        }
        for (int what = 0; what < reached.length; what++) {
            reached[what] += m.counts[what];
        }
        mostEmptiedByOnePut = Math.max(mostEmptiedByOnePut, m.mostEmptiedByOnePut);
    }

    private static void put(TinyCache x, Model m, long key, int n, int call) {
        int i = below(8);
        m.buffer[i] = call * 1000 + i;
        x.word(i, call * 1000 + i);
        m.put(key, n);
        x.put(key, n);
    }

    private static void get(String what, TinyCache x, Model m, long key) {
        int length = m.get(key);
        Check.due(what + " get", x.get(key), length);
        for (int i = 0; i < length; i++) {
            Check.due(what + " got", x.got(i), m.found[i]);
        }
        Check.throwsIndex(what + " got behind the last", () -> x.got(length));
    }

    private static void otherCall(String what, TinyCache x, Model m, long key, boolean crashes) {
        int kind = below(100);
        if (kind < 60) {
            get(what, x, m, key);
        } else if (kind < 80) {
            Check.due(what + " where", x.where(key), m.where(key));
        } else if (kind < 95) {
            Check.due(what + " delete", x.delete(key), m.delete(key));
        } else if (kind < 99 || !crashes) {
            m.closed = true;
            x.close();
        } else {
            m.crash();
            x.crash();
        }
    }

    private static void compareCounts(String what, TinyCache x, Model m) {
        for (int i = -1; i <= 13; i++) {
            Check.due(what + " count(" + i + ")", x.count(i), m.count(i));
        }
    }

    private static void compareFlash(String what, TinyCache x, Model m) {
        for (int p = 0; p < 96; p++) {
            Check.page(what, x, p, m.pages[p]);
        }
    }
}
