import java.util.ArrayList;
import java.util.List;

/** All of the 512 calls that an object is promised answer as they are due, the last one, too. */
public final class LastCallTest {
    private static final int BEFORE = Counted.CALLS - 1;

    public static void main(String[] args) {
        lastCallsBehind("small objects of many keys", smallObjects());
        lastCallsBehind("large objects of many keys", largeObjects());
        lastCallsBehind("one key over and over", oneKey());
        lastCallsBehind("puts, gets and deletes", allKinds());
        Check.end();
    }

    private static List<Call> smallObjects() {
        List<Call> calls = new ArrayList<>();
        for (int i = 0; i < BEFORE; i++) {
            calls.add(Call.put(i, 1));
        }
        return calls;
    }

    private static List<Call> largeObjects() {
        List<Call> calls = new ArrayList<>();
        for (int i = 0; i < BEFORE; i++) {
            calls.add(Call.put(i * 7919L % 150, 8));
        }
        return calls;
    }

    private static List<Call> oneKey() {
        List<Call> calls = new ArrayList<>();
        for (int i = 0; i < BEFORE; i++) {
            calls.add(i % 8 == 0 ? Call.word(i / 8 % 8, i) : Call.put(5, 8));
        }
        return calls;
    }

    private static List<Call> allKinds() {
        List<Call> calls = new ArrayList<>();
        for (int i = 0; i < BEFORE; i++) {
            long key = i * 31L % 60;
            calls.add(i % 9 == 8 ? Call.of(Call.Kind.DELETE, key)
                    : i % 9 == 4 ? Call.of(Call.Kind.GET, key - 31) : Call.put(key, 1 + i % 8));
        }
        return calls;
    }

    private static void lastCallsBehind(String what, List<Call> before) {
        Model m = new Model();
        for (Call call : before) {
            call.on(m);
        }
        for (Call last : lastCalls(before.get(BEFORE - 1).key)) {
            Counted x = new Counted();
            for (Call call : before) {
                call.on(x);
            }
            Check.due("behind " + what + " " + last, last.on(x), dueOf(last, m, before));
        }
    }

    /** Calls that change something have a model of their own: the others share one. */
    private static long dueOf(Call last, Model shared, List<Call> before) {
        if (last.kind == Call.Kind.FLASH || last.kind == Call.Kind.COUNT || last.kind == Call.Kind.WHERE) {
            return last.on(shared);
        }
        Model own = new Model();
        for (Call call : before) {
            call.on(own);
        }
        return last.on(own);
    }

    private static List<Call> lastCalls(long lastKey) {
        List<Call> calls = new ArrayList<>();
        for (long key : new long[] {lastKey, 0, 5, 100, 400, 510}) {
            calls.add(Call.put(key, 8));
            calls.add(Call.put(key, 9));
            calls.add(Call.of(Call.Kind.GET, key));
            calls.add(Call.of(Call.Kind.DELETE, key));
            calls.add(Call.of(Call.Kind.SET_OF, key));
            calls.add(Call.of(Call.Kind.WHERE, key));
        }
        calls.add(Call.word(7, 1));
        calls.add(Call.got(0));
        calls.add(Call.of(Call.Kind.CLOSE));
        calls.add(Call.of(Call.Kind.CRASH));
        calls.add(Call.of(Call.Kind.OPEN));
        for (int what = -1; what <= 13; what++) {
            calls.add(Call.count(what));
        }
        for (int p = 0; p < 96; p++) {
            for (int i : new int[] {0, 2, 3, 14, 31}) {
                calls.add(Call.flash(p, i));
            }
        }
        return calls;
    }
}
