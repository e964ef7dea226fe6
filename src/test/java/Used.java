/**
 * A LazyNames in use: each answer is held against the Reference, and no more calls are made than the document allows.
 */
final class Used {
    static final int MOST_CALLS = 512;

    private final LazyNames own = new LazyNames();
    private final Reference other = new Reference();
    private final Due due;
    private final StringBuilder log = new StringBuilder();
    private int calls;

    Used(Due due) {
        this.due = due;
    }

    int calls() {
        return calls;
    }

    private long same(String call, long got, long want) {
        calls++;
        if (calls > MOST_CALLS) throw new IllegalStateException("a test makes more than " + MOST_CALLS + " calls");
        log.append(call).append(" -> ").append(got).append('\n');
        if (want == Reference.UNSURE) return got;
        due.due(call, got, want);
        if (got != want) System.out.println("by the Reference, after:\n" + log);
        return got;
    }

    int name(int arity) {
        return (int) same("name(" + arity + ")", own.name(arity), other.name(arity));
    }

    int parameter(int i) {
        return (int) same("parameter(" + i + ")", own.parameter(i), other.parameter(i));
    }

    int term(int n, int a, int b) {
        return (int) same("term(" + n + ", " + a + ", " + b + ")", own.term(n, a, b), other.term(n, a, b));
    }

    /** The TERM of a NAME with the PARTS that are given, and NONE beyond. */
    int of(int n, int... parts) {
        return term(n, parts.length > 0 ? parts[0] : LazyNames.NONE, parts.length > 1 ? parts[1] : LazyNames.NONE);
    }

    /** The TERM of several NAMES of ARITY 1, the first in front, about a TERM. */
    int chain(int x, int... names) {
        int chain = x;
        for (int i = names.length - 1; i >= 0; i--) chain = of(names[i], chain);
        return chain;
    }

    int define(int n, int x) {
        return (int) same("define(" + n + ", " + x + ")", own.define(n, x), other.define(n, x));
    }

    int opaque(int n, boolean is) {
        return (int) same("opaque(" + n + ", " + is + ")", own.opaque(n, is), other.opaque(n, is));
    }

    int ofName(int n, int what) {
        return (int) same("ofName(" + n + ", " + what + ")", own.ofName(n, what), other.ofName(n, what));
    }

    int ofTerm(int x, int what) {
        return (int) same("ofTerm(" + x + ", " + what + ")", own.ofTerm(x, what), other.ofTerm(x, what));
    }

    long size(int x, int what) {
        return same("size(" + x + ", " + what + ")", own.size(x, what), other.size(x, what));
    }

    int front(int x) {
        return (int) same("front(" + x + ")", own.front(x), other.front(x));
    }

    int check(int x, int y) {
        return (int) same("check(" + x + ", " + y + ")", own.check(x, y), other.check(x, y));
    }

    int checked(int what) {
        return (int) same("checked(" + what + ")", own.checked(what), other.checked(what));
    }

    /** What is told of the latest CHECK: UNFOLDINGS, JUDGED pairs, the NAMES of its last CLASH, the answer. */
    void told(String of, int... want) {
        for (int what = 0; what < want.length; what++) {
            due.due(of + ": checked(" + what + ")", checked(what), want[what]);
        }
    }

    int many(int what) {
        return (int) same("many(" + what + ")", own.many(what), other.many(what));
    }
}
