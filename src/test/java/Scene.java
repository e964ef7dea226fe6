import java.util.Arrays;

/** A run of calls that is made anew for each question, as an object is good for 512 calls alone. */
final class Scene {
    interface Making {
        void make(Used x);
    }

    interface Call {
        long on(Used x);
    }

    static final int SLICES = 8;
    private static final int TERMS_A_SLICE = 18;
    private static final int NONE = -9;

    private final Due due;
    private final String name;
    private final Making making;

    Scene(Due due, String name, Making making) {
        this.due = due;
        this.name = name;
        this.making = making;
    }

    Used made() {
        Used x = new Used(due);
        making.make(x);
        return x;
    }

    void answers(String asked, Call call, long want) {
        due.due(name + ": " + asked, call.on(made()), want);
    }

    /** The call is refused as is due, again and again, and all that can be told afterwards is as without it. */
    void refuses(String asked, Call call, long want) {
        answers(asked, call, want);
        for (int slice = 0; slice < SLICES; slice++) {
            Used without = made(), with = made();
            for (int i = 0; i < 3; i++) due.due(name + ": " + asked + ", again", call.on(with), want);
            due.due(name + ": " + asked + " changed something", Arrays.equals(look(without, slice), look(with, slice)));
        }
    }

    /** What an object tells of itself, slice by slice; the last two slices change it. */
    static long[] look(Used x, int slice) {
        if (slice == 0) return lookAtNames(x);
        if (slice == SLICES - 2) return lookAtWhatIsMadeNext(x);
        if (slice == SLICES - 1) return lookAtWhatIsUndone(x);
        return lookAtTerms(x, (slice - 1) * TERMS_A_SLICE);
    }

    private static long[] lookAtNames(Used x) {
        long[] seen = new long[60];
        int at = 0;
        for (int what = 0; what < 5; what++) {
            seen[at++] = x.many(what);
            seen[at++] = x.checked(what);
        }
        for (int n = 0; n < 12; n++) {
            for (int what = 0; what < 4; what++) seen[at++] = x.ofName(n, what);
        }
        return seen;
    }

    private static long[] lookAtTerms(Used x, int from) {
        long[] seen = new long[TERMS_A_SLICE * 11];
        int at = 0;
        for (int term = from; term < from + TERMS_A_SLICE; term++) {
            for (int what = 0; what < 6; what++) seen[at++] = x.ofTerm(term, what);
            for (int what = 0; what < 4; what++) seen[at++] = x.size(term, what);
            seen[at++] = x.front(term);
        }
        return seen;
    }

    private static long[] lookAtWhatIsMadeNext(Used x) {
        long[] seen = new long[60];
        int at = 0;
        seen[at++] = x.name(2);
        seen[at++] = x.parameter(1);
        seen[at++] = x.parameter(0);
        for (int n = 0; n < 12; n++) {
            seen[at++] = x.term(n, NONE, NONE);
            seen[at++] = x.term(n, 0, NONE);
            seen[at++] = x.term(n, 0, 0);
        }
        for (int term = 0; term < 12; term++) seen[at++] = x.check(term, 2);
        for (int what = 0; what < 5; what++) seen[at++] = x.checked(what);
        return seen;
    }

    private static long[] lookAtWhatIsUndone(Used x) {
        long[] seen = new long[48];
        int at = 0;
        for (int n = 0; n < 12; n++) {
            seen[at++] = x.opaque(n, true);
            seen[at++] = x.opaque(n, false);
            seen[at++] = x.define(n, NONE);
            seen[at++] = x.define(n, 0);
        }
        return seen;
    }
}
