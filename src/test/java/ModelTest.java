import java.util.ArrayList;
import java.util.List;

/** Long runs of mixed calls, wrong ones too, on the class and on the model: all answers are the same. */
public final class ModelTest {
    private static final int RUNS = 480;
    // Behind so many calls there is room for four pages of flash, word by word.
    private static final int CALLS_BEFORE_FLASH = Counted.CALLS - 4 * 32;
    // Sums over all runs: a run that never came to something would not test it.
    private static final long[] reached = new long[11];
    private static int mostEmptiedByOnePut = 0;
    private static long seed = 20261115;

    /** What a run is made of. */
    private static final class Mix {
        final long[] keys;
        final int smallest;
        final int largest;
        final int putsOfTen = 4 + below(5);
        final boolean crashes;
        // Scanning runs put each key in turn and get it: many are alone and got then. Where
        // each has a set of its own they come once, in full pages, and the first few follow.
        final boolean scans;
        final boolean oncePerSet;

        Mix(int run) {
            keys = keysOf(run);
            oncePerSet = run % 6 == 4;
            scans = run % 3 == 0 || oncePerSet;
            crashes = run % 8 == 7;
            int some = below(3) == 0 ? 8 : 1 + below(8);
            largest = oncePerSet && run % 4 == 0 ? 8 : some;
            smallest = oncePerSet && run % 4 == 0 ? 8 : 1 + below(largest);
        }

        long key(int call) {
            int turn = oncePerSet && call / 2 >= keys.length ? below(3) : call / 2 % keys.length;
            return keys[scans ? turn : below(keys.length)];
        }

        int length() {
            return smallest + below(largest - smallest + 1);
        }
    }

    public static void main(String[] args) {
        for (int run = 0; run < RUNS; run++) {
            run(run, new Mix(run));
        }
        for (int what = 0; what < reached.length; what++) {
            Check.due("the runs come to count " + what, reached[what] > 0, true);
        }
        Check.due("one put empties two segments", mostEmptiedByOnePut >= 2, true);
        Check.end();
    }

    /** A random number below a bound, the same in each run of the test. */
    private static int below(int bound) {
        seed = seed * 6364136223846793005L + 1442695040888963407L;
        return (int) ((seed >>> 33) % bound);
    }

    private static long[] keysOf(int run) {
        switch (run % 6) {
            case 0:
                return someKeys(6 + below(30));
            case 1:
                return someKeys(60 + below(200));
            case 2:
                return keysOfFewSets(2 + below(3), 8);
            case 3:
                return keysOfFewSets(8 + below(8), 4);
            case 4:
                return keysOfFewSets(24 + below(36), 1);
            default:
                return withTwins(keysOfFewSets(3, 3));
        }
    }

    private static long[] someKeys(int n) {
        long[] keys = new long[n];
        for (int i = 0; i < n; i++) {
            keys[i] = ((long) below(1 << 30) << 34) ^ below(1 << 30) - (1L << 29);
        }
        return keys;
    }

    private static long[] keysOfFewSets(int sets, int each) {
        long[] keys = new long[sets * each];
        for (int s = 0; s < sets; s++) {
            System.arraycopy(Keys.ofSet(s * 64 / sets, each), 0, keys, s * each, each);
        }
        return keys;
    }

    private static long[] withTwins(long[] keys) {
        long[] all = new long[keys.length * 2];
        for (int i = 0; i < keys.length; i++) {
            all[i] = keys[i];
            all[keys.length + i] = Keys.twin(keys[i]);
        }
        return all;
    }

    private static void run(int run, Mix mix) {
        Counted x = new Counted();
        Model m = new Model();
        List<Call> calls = new ArrayList<>();
        for (int c = 0; c < Counted.CALLS; c++) {
            Call call = nextCall(mix, m, c);
            Check.due("run " + run + ", call " + c + " " + call, call.on(x), call.on(m));
            if (c < CALLS_BEFORE_FLASH) {
                calls.add(call);
            }
            if (c == CALLS_BEFORE_FLASH - 1) {
                Check.flash("run " + run, () -> replayed(calls), m.pages);
            }
        }
        for (int what = 0; what < reached.length; what++) {
            reached[what] += m.counts[what];
        }
        mostEmptiedByOnePut = Math.max(mostEmptiedByOnePut, m.mostEmptiedByOnePut);
    }

    private static Counted replayed(List<Call> calls) {
        Counted x = new Counted();
        for (Call call : calls) {
            call.on(x);
        }
        return x;
    }

    private static Call nextCall(Mix mix, Model m, int c) {
        long key = mix.key(c);
        if (m.closed) {
            return below(3) == 0 ? Call.of(Call.Kind.OPEN) : anyCall(mix, key);
        }
        if (mix.scans && below(50) != 0) {
            return c % 2 == 0 ? Call.put(key, mix.length()) : Call.of(Call.Kind.GET, key);
        }
        if (below(10) < mix.putsOfTen) {
            return below(5) == 0 ? Call.word(below(8), c * 1000) : Call.put(key, mix.length());
        }
        return anyCall(mix, key);
    }

    /** A call with arguments that are sometimes just outside of what is allowed. */
    private static Call anyCall(Mix mix, long key) {
        int kind = below(100);
        if (kind < 30) {
            return Call.of(Call.Kind.GET, key);
        }
        if (kind < 45) {
            return Call.of(Call.Kind.DELETE, key);
        }
        if (kind < 55) {
            return Call.of(Call.Kind.WHERE, key);
        }
        if (kind < 70) {
            return Call.got(below(10) - 1);
        }
        if (kind < 80) {
            return Call.count(below(15) - 1);
        }
        return seldomCall(mix, key);
    }

    private static Call seldomCall(Mix mix, long key) {
        switch (below(8)) {
            case 0:
                return Call.word(below(10) - 1, below(1000));
            case 1:
                return Call.put(key, below(10));
            case 2:
                return Call.flash(below(98) - 1, below(34) - 1);
            case 3:
                return Call.of(Call.Kind.SET_OF, key);
            case 4:
                return Call.of(Call.Kind.OPEN);
            case 5:
                return Call.of(mix.crashes ? Call.Kind.CRASH : Call.Kind.CLOSE);
            default:
                return Call.of(Call.Kind.CLOSE);
        }
    }
}
