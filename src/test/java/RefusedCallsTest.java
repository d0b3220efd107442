import java.util.ArrayList;
import java.util.List;
import java.util.function.Consumer;

/** A refused call throws what the document says, and changes nothing that later calls answer. */
public final class RefusedCallsTest {
    private static final int[] FAR = {Integer.MIN_VALUE, Integer.MAX_VALUE};
    private static final long[] KEYS = {Keys.ofSet(1, 2)[0], Keys.ofSet(1, 2)[1], Keys.ofSet(3), Drive.FILLER, -1};

    public static void main(String[] args) {
        whenOpen("new", x -> { });
        whenOpen("a page with room", RefusedCallsTest::pageWithRoom);
        whenOpen("a full log", RefusedCallsTest::fullLog);
        whenOpen("everything", Drive::everything);
        whenOpen("marks", RefusedCallsTest::marks);
        whenOpen("after a crash", x -> {
            Drive.everything(x);
            x.crash();
            x.open();
            pageWithRoom(x);
        });
        whenClosed("new, closed", x -> { });
        whenClosed("a page with room, closed", RefusedCallsTest::pageWithRoom);
        whenClosed("a full log, closed", RefusedCallsTest::fullLog);
        whenClosed("everything, closed", Drive::everything);
        whenClosed("marks, closed", RefusedCallsTest::marks);
        refusedAll("crashed", x -> {
            marks(x);
            x.crash();
        }, refusedWhenClosed());
        Check.end();
    }

    private static void pageWithRoom(Face x) {
        Drive.put(x, KEYS[0], 3, 10);
        Drive.put(x, KEYS[2], 8, 20);
        x.get(KEYS[0]);
    }

    /** One word more, and the first segment is emptied: a key of it was got. */
    private static void fullLog(Face x) {
        Drive.putAll(x, 8, KEYS[2], KEYS[0], KEYS[1]);
        x.get(KEYS[2]);
        Drive.fill(x, 63);
        x.put(Drive.FILLER, 7);
    }

    /** A set's page with two objects, one of them marked and got last. */
    private static void marks(Face x) {
        Drive.putAll(x, 8, KEYS[0], KEYS[1]);
        Drive.fill(x, 65);
        x.get(KEYS[0]);
    }

    private static void whenOpen(String state, Consumer<Face> script) {
        refusedAll(state, script, refusedWhenOpen());
    }

    private static void whenClosed(String state, Consumer<Face> script) {
        refusedAll(state, x -> {
            script.accept(x);
            x.close();
        }, refusedWhenClosed());
    }

    /** A call and what it throws. */
    private static final class Refused {
        final Call call;
        final long thrown;

        Refused(Call call, long thrown) {
            this.call = call;
            this.thrown = thrown;
        }
    }

    private static List<Refused> refusedWhenOpen() {
        List<Refused> all = refusedAlways();
        all.add(new Refused(Call.of(Call.Kind.OPEN), Call.STATE));
        for (long key : KEYS) {
            for (int n : new int[] {-1, 0, 9, FAR[0], FAR[1]}) {
                all.add(new Refused(Call.put(key, n), Call.ARGUMENT));
            }
        }
        return all;
    }

    private static List<Refused> refusedWhenClosed() {
        List<Refused> all = refusedAlways();
        all.add(new Refused(Call.of(Call.Kind.CLOSE), Call.STATE));
        all.add(new Refused(Call.of(Call.Kind.CRASH), Call.STATE));
        for (long key : KEYS) {
            for (Call.Kind kind : new Call.Kind[] {Call.Kind.GET, Call.Kind.DELETE, Call.Kind.WHERE}) {
                all.add(new Refused(Call.of(kind, key), Call.STATE));
            }
            for (int n : new int[] {1, 8, 0, 9, FAR[0], FAR[1]}) {
                all.add(new Refused(Call.put(key, n), Call.STATE));
            }
        }
        return all;
    }

    private static List<Refused> refusedAlways() {
        List<Refused> all = new ArrayList<>();
        for (int i : new int[] {-1, 8, FAR[0], FAR[1]}) {
            all.add(new Refused(Call.word(i, 1), Call.INDEX));
            all.add(new Refused(Call.got(i), Call.INDEX));
        }
        for (int i : new int[] {-1, 32, FAR[0], FAR[1]}) {
            for (int p : new int[] {0, 63, 64, 95}) {
                all.add(new Refused(Call.flash(p, i), Call.INDEX));
            }
        }
        for (int p : new int[] {-1, 96, FAR[0], FAR[1]}) {
            for (int i : new int[] {0, 31, -1, 32}) {
                all.add(new Refused(Call.flash(p, i), Call.INDEX));
            }
        }
        return all;
    }

    private static void refusedAll(String state, Consumer<Face> script, List<Refused> refused) {
        for (List<Call> later : laterCalls()) {
            List<Long> due = answers(made(script), later);
            for (Refused each : refused) {
                Counted x = made(script);
                String what = state + ": " + each.call;
                Check.due(what, each.call.on(x), each.thrown);
                compare(what, later, answers(x, later), due);
            }
        }
    }

    private static Counted made(Consumer<Face> script) {
        Counted x = new Counted();
        script.accept(x);
        return x;
    }

    private static List<Long> answers(Face x, List<Call> calls) {
        List<Long> all = new ArrayList<>();
        for (Call call : calls) {
            all.add(call.on(x));
        }
        return all;
    }

    private static void compare(String what, List<Call> later, List<Long> got, List<Long> due) {
        for (int i = 0; i < later.size(); i++) {
            Check.due(what + ", then " + later.get(i), got.get(i), due.get(i));
        }
    }

    /** Rows of calls that show, each in its own way, what is inside. */
    private static List<List<Call>> laterCalls() {
        List<List<Call>> all = new ArrayList<>();
        all.add(looks());
        all.add(goesOn());
        for (int p = 0; p < 96; p += 8) {
            List<Call> pages = new ArrayList<>();
            for (int word = 0; word < 8 * 32; word++) {
                pages.add(Call.flash(p + word / 32, word % 32));
            }
            all.add(pages);
        }
        return all;
    }

    private static List<Call> looks() {
        List<Call> calls = new ArrayList<>();
        for (int i = -1; i <= 13; i++) {
            calls.add(Call.count(i));
        }
        for (int i = 0; i < 8; i++) {
            calls.add(Call.got(i));
            calls.add(Call.word(i, 0));
        }
        for (long key : KEYS) {
            calls.add(Call.of(Call.Kind.WHERE, key));
        }
        calls.add(Call.of(Call.Kind.OPEN));
        for (long key : KEYS) {
            calls.add(Call.of(Call.Kind.WHERE, key));
            calls.add(Call.of(Call.Kind.GET, key));
            calls.add(Call.got(0));
            calls.add(Call.of(Call.Kind.DELETE, key));
        }
        return calls;
    }

    /** The log goes round, and sets 1 and 3 come to show what was marked and got. */
    private static List<Call> goesOn() {
        List<Call> calls = new ArrayList<>();
        calls.add(Call.of(Call.Kind.OPEN));
        long[] more = Keys.ofSet(1, 4);
        calls.add(Call.put(more[2], 8));
        calls.add(Call.put(more[3], 1));
        for (int i = 0; i < 140; i++) {
            calls.add(Call.put(Drive.FILLER, 8));
        }
        for (int i = 0; i <= 12; i++) {
            calls.add(Call.count(i));
        }
        for (long key : KEYS) {
            calls.add(Call.of(Call.Kind.WHERE, key));
        }
        return calls;
    }
}
