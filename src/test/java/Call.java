/** One call of the face with its arguments. */
final class Call {
    enum Kind { WORD, PUT, GET, GOT, DELETE, SET_OF, WHERE, FLASH, CLOSE, CRASH, OPEN, COUNT }

    // What is thrown is told as an answer that no call can give.
    static final long STATE = 1L << 40;
    static final long ARGUMENT = 1L << 41;
    static final long INDEX = 1L << 42;
    static final long NOTHING = 0;

    final Kind kind;
    final long key;
    final int a;
    final int b;

    private Call(Kind kind, long key, int a, int b) {
        this.kind = kind;
        this.key = key;
        this.a = a;
        this.b = b;
    }

    static Call of(Kind kind) {
        return new Call(kind, 0, 0, 0);
    }

    static Call of(Kind kind, long key) {
        return new Call(kind, key, 0, 0);
    }

    static Call word(int i, int v) {
        return new Call(Kind.WORD, 0, i, v);
    }

    static Call put(long key, int n) {
        return new Call(Kind.PUT, key, n, 0);
    }

    static Call got(int i) {
        return new Call(Kind.GOT, 0, i, 0);
    }

    static Call flash(int p, int i) {
        return new Call(Kind.FLASH, 0, p, i);
    }

    static Call count(int what) {
        return new Call(Kind.COUNT, 0, what, 0);
    }

    /** The answer, a boolean as 1 or 0, or what was thrown. */
    long on(Face x) {
        try {
            return answer(x);
        } catch (RuntimeException e) {
            return thrown(e);
        }
    }

    /** The very class is asked for: a subclass thrown by the JVM itself goes on as a fault. */
    static long thrown(RuntimeException e) {
        if (e.getClass() == IllegalStateException.class) {
            return STATE;
        }
        if (e.getClass() == IllegalArgumentException.class) {
            return ARGUMENT;
        }
        if (e.getClass() == IndexOutOfBoundsException.class) {
            return INDEX;
        }
        throw e;
    }

    private long answer(Face x) {
        switch (kind) {
            case WORD:
                return x.word(a, b);
            case PUT:
                x.put(key, a);
                return NOTHING;
            case GET:
                return x.get(key);
            case GOT:
                return x.got(a);
            case DELETE:
                return x.delete(key) ? 1 : 0;
            case SET_OF:
                return x.setOf(key);
            case WHERE:
                return x.where(key);
            case FLASH:
                return x.flash(a, b);
            case CLOSE:
                x.close();
                return NOTHING;
            case CRASH:
                x.crash();
                return NOTHING;
            case OPEN:
                return x.open();
            default:
                return x.count(a);
        }
    }

    @Override
    public String toString() {
        return kind + "(key " + key + ", " + a + ", " + b + ")";
    }
}
