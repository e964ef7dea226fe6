/** The empty cases that the document names: a new object, NONE, 0, "there was none", "it was so". */
public final class EmptyCasesTest {
    private static final int UNKNOWN = -1, OUTSIDE = -2, STATE = -3, SPENT = -6, NONE = -9;
    private static final long LOST = Long.MIN_VALUE;
    private static final int[] ANY = {Integer.MIN_VALUE, NONE, -1, 0, 1, 2, 5, 6, 11, 12, 89, 90, Integer.MAX_VALUE};

    private static final Due DUE = new Due();

    private static void due(String call, long got, long want) {
        DUE.due(call, got, want);
    }

    public static void main(String[] args) {
        newObjectHasNothing();
        newObjectRefuses();
        definedByNone();
        definedByNoneForWhatFollows();
        opaqueWasSo();
        nameWithNothing();
        termWithFewerParts();
        nothingToUnfold();
        nothingBeyondTheUnfolded();
        fronts();
        checkOfTheSame();
        noClashToldOfAlike();
        noneOfTheClashAhead();
        refusedCheckKeepsTheLatest();
        spentCheckIsNoLatest();
        latestIsAsItWas();
        manyOfNothing();
        DUE.end();
    }

    /** "No NAMES, no TERMS, no CHECK." */
    private static void newObjectHasNothing() {
        Used x = new Used(DUE);
        for (int what = 0; what <= 4; what++) {
            due("new: many " + what, x.many(what), 0);
            due("new: checked " + what, x.checked(what), STATE);
        }
        due("new: its first name", x.name(0), 0);
        due("new: its first term", x.parameter(0), 0);
        Used y = new Used(DUE);
        due("new: the next object has none of it", y.many(0) + y.many(1), 0);
    }

    private static void newObjectRefuses() {
        for (int a : ANY) {
            Used x = new Used(DUE);
            for (int b : ANY) {
                due("new: term", x.term(a, b, NONE), UNKNOWN);
                due("new: define", x.define(a, b), UNKNOWN);
                due("new: ofName", x.ofName(a, b), UNKNOWN);
                due("new: ofTerm", x.ofTerm(a, b), UNKNOWN);
                due("new: size", x.size(a, b), LOST);
                due("new: check", x.check(a, b), UNKNOWN);
            }
            due("new: opaque", x.opaque(a, true), UNKNOWN);
            due("new: not opaque", x.opaque(a, false), UNKNOWN);
            due("new: front", x.front(a), UNKNOWN);
            due("new: checked", x.checked(a), a >= 0 && a <= 4 ? STATE : OUTSIDE);
            due("new: many", x.many(a), a >= 0 && a <= 4 ? 0 : OUTSIDE);
            due("new: nothing came", x.many(0) + x.many(1), 0);
        }
    }

    /** "(NONE: by none any more): what it was DEFINED by; NONE: it was not." */
    private static void definedByNone() {
        for (int arity = 0; arity <= 2; arity++) {
            Used x = new Used(DUE);
            int c = x.name(0), d = x.name(0), n = x.name(arity), tc = x.of(c), td = x.of(d);
            due("none: it was not", x.define(n, NONE), NONE);
            due("none: nor then", x.define(n, NONE), NONE);
            due("none: by c, it was not", x.define(n, tc), NONE);
            due("none: by d, it was by c", x.define(n, td), tc);
            due("none: by d again", x.define(n, td), td);
            due("none: by none any more", x.define(n, NONE), td);
            due("none: it is not", x.ofName(n, 1), NONE);
            due("none: by none again", x.define(n, NONE), NONE);
            due("none: by c anew", x.define(n, tc), NONE);
            // An OPAQUE NAME is DEFINED like any other.
            x.opaque(n, true);
            due("none: opaque, by d", x.define(n, td), tc);
            due("none: opaque, by none", x.define(n, NONE), td);
            due("none: still opaque", x.ofName(n, 2), 1);
        }
        Used y = new Used(DUE);
        int n = y.name(1), p0 = y.parameter(0);
        due("none: term 0 is not none", y.define(n, p0), NONE);
        due("none: it was by term 0", y.define(n, NONE), 0);
    }

    private static void definedByNoneForWhatFollows() {
        Used x = new Used(DUE);
        int c = x.name(0), d = x.name(0), e = x.name(0), tc = x.of(c), td = x.of(d), te = x.of(e);
        x.define(d, tc);
        x.define(e, td);
        due("none: two unfoldings", x.size(te, 3), 2);
        due("none: d was c", x.define(d, NONE), tc);
        due("none: e is less high", x.ofName(e, 3), 1);
        due("none: e is d", x.front(te), d);
        due("none: one unfolding", x.size(te, 3), 1);
        due("none: e is not c", x.check(te, tc), 0);
        due("none: e is still defined", x.ofName(e, 1), td);
        due("none: one is", x.many(2), 1);
    }

    /** "1; 0: it was so." */
    private static void opaqueWasSo() {
        Used x = new Used(DUE);
        int c = x.name(0), d = x.name(0), tc = x.of(c);
        for (int n : new int[] {c, d}) {
            due("opaque: it was not, at first", x.opaque(n, false), 0);
            due("opaque: it is", x.opaque(n, true), 1);
            due("opaque: it was", x.opaque(n, true), 0);
            due("opaque: told", x.ofName(n, 2), 1);
            due("opaque: it is not any more", x.opaque(n, false), 1);
            due("opaque: it was not", x.opaque(n, false), 0);
            due("opaque: told, not", x.ofName(n, 2), 0);
            x.define(d, tc);
        }
        x.opaque(d, true);
        due("opaque: of its own", x.ofName(c, 2), 0);
        due("opaque: the next is not", x.ofName(x.name(0), 2), 0);
    }

    private static void nameWithNothing() {
        Used x = new Used(DUE);
        for (int arity = 0; arity <= 2; arity++) {
            int n = x.name(arity);
            int[] want = {arity, NONE, 0, 0};
            for (int what = 0; what <= 3; what++) due("name: " + what, x.ofName(n, what), want[what]);
        }
    }

    /** "0 the NAME in front (NONE: a PARAMETER), 1, 2 its PARTS (NONE: there are fewer), 3 [..] (NONE: none)" */
    private static void termWithFewerParts() {
        Used x = new Used(DUE);
        int c = x.name(0), s = x.name(1), f = x.name(2);
        ofTerm(x, x.parameter(0), NONE, NONE, NONE, 0, 0, 1);
        ofTerm(x, x.parameter(1), NONE, NONE, NONE, 1, 0, 1);
        ofTerm(x, x.of(c), c, NONE, NONE, NONE, 1, 1);
        ofTerm(x, x.of(s, 0), s, 0, NONE, NONE, 0, 2);
        ofTerm(x, x.of(f, 2, 0), f, 2, 0, NONE, 0, 2);
        ofTerm(x, x.of(f, 2, 2), f, 2, 2, NONE, 1, 2);
    }

    private static void ofTerm(Used x, int term, int... want) {
        for (int what = 0; what < want.length; what++) {
            due("ofTerm(" + term + ", " + what + ")", x.ofTerm(term, what), want[what]);
        }
    }

    /** "of what it is UNFOLDED (1; 0: its front is not FOLDED)" */
    private static void nothingToUnfold() {
        Used x = new Used(DUE);
        int c = x.name(0), s = x.name(1), d = x.name(0), g = x.name(1);
        int p0 = x.parameter(0), p1 = x.parameter(1), tc = x.of(c), td = x.of(d), sd = x.of(s, td), gp = x.of(g, p1);
        x.define(d, tc);
        sizes(x, p0, 1, 0, 1, 0);
        sizes(x, p1, 1, 0, 1, 0);
        sizes(x, tc, 1, 0, 1, 0);
        sizes(x, td, 1, 1, 1, 1);
        // A PART is FOLDED, but the front is not.
        sizes(x, sd, 2, 0, 2, 1);
        sizes(x, gp, 2, 0, 2, 0);
        x.define(g, p0);
        sizes(x, gp, 2, 1, 1, 1);
        x.define(g, sd);
        sizes(x, gp, 2, 2, 2, 2);
        x.opaque(g, true);
        sizes(x, gp, 2, 0, 2, 0);
        x.define(d, NONE);
        sizes(x, td, 1, 0, 1, 0);
    }

    private static void sizes(Used x, int term, long... want) {
        for (int what = 0; what < want.length; what++) {
            due("size(" + term + ", " + what + ")", x.size(term, what), want[what]);
        }
    }

    /** A NAME whose definition leaves out PARTS: what falls away is neither in the WHOLE nor UNFOLDED. */
    private static void nothingBeyondTheUnfolded() {
        Used x = new Used(DUE);
        int c = x.name(0), d = x.name(0), f = x.name(2), k = x.name(2);
        int p0 = x.parameter(0), p1 = x.parameter(1), tc = x.of(c), td = x.of(d), fd = x.of(f, td, td);
        x.define(d, tc);
        int kx = x.of(k, fd, td);
        sizes(x, kx, 5, 0, 5, 3);
        x.define(k, p1);
        sizes(x, kx, 5, 1, 1, 2);
        x.define(k, p0);
        sizes(x, kx, 5, 3, 3, 3);
        x.define(k, tc);
        sizes(x, kx, 5, 1, 1, 1);
        x.define(k, td);
        sizes(x, kx, 5, 1, 1, 2);
    }

    /** "a NAME; 100 and the number of a PARAMETER" */
    private static void fronts() {
        Used x = new Used(DUE);
        due("front: parameter 1", x.front(x.parameter(1)), 101);
        due("front: parameter 0", x.front(x.parameter(0)), 100);
        for (int n = 0; n < 12; n++) {
            x.name(n == 11 ? 2 : 0);
            due("front: name " + n, x.front(n == 11 ? x.of(n, 0, 1) : x.of(n)), n);
        }
        int last = x.of(11, 0, 1);
        x.define(11, 1);
        due("front: its part 0", x.front(last), 101);
        x.define(11, 0);
        due("front: its part 1", x.front(last), 100);
        x.define(11, x.of(10));
        due("front: name 10", x.front(last), 10);
        // Parts of parts, as deep as a TERM goes.
        x.define(11, 1);
        int deep = x.of(11, x.of(11, x.of(11, 0, 1), 1), 1);
        due("front: the deepest left", x.front(deep), 101);
        x.define(11, 0);
        due("front: the right", x.front(deep), 100);
    }

    /** "both are the same TERM: they are ALIKE" */
    private static void checkOfTheSame() {
        Used x = new Used(DUE);
        int c = x.name(0), s = x.name(1), d = x.name(0), tc = x.of(c), td = x.of(d), sd = x.of(s, td);
        x.define(d, tc);
        for (int term : new int[] {tc, td, sd}) {
            due("same: alike", x.check(term, term), 1);
            x.told("same", 0, 0, NONE, NONE, 1);
        }
        x.opaque(d, true);
        due("same: opaque", x.check(td, td), 1);
        x.told("same: opaque", 0, 0, NONE, NONE, 1);
    }

    /** "(x's, y's; NONE: there was none, or it found them ALIKE)" */
    private static void noClashToldOfAlike() {
        Used x = new Used(DUE);
        int c = x.name(0), d = x.name(0), e = x.name(0), k = x.name(1);
        int tc = x.of(c), td = x.of(d), te = x.of(e);
        x.define(e, td);
        x.define(k, tc);
        due("clash: there was none", x.check(td, te), 1);
        x.told("clash: there was none", 1, 1, NONE, NONE, 1);
        due("clash: there was one, but alike", x.check(x.of(k, tc), x.of(k, td)), 1);
        x.told("clash: there was one, but alike", 2, 2, NONE, NONE, 1);
        due("clash: there was one, and unlike", x.check(tc, td), 0);
        x.told("clash: there was one, and unlike", 0, 1, c, d, 0);
        due("clash: behind an unfolding", x.check(tc, te), 0);
        x.told("clash: behind an unfolding", 1, 2, c, d, 0);
        // NAME 0 is a NAME, and not NONE.
        due("clash: y is name 0", x.check(td, tc), 0);
        x.told("clash: y is name 0", 0, 1, d, c, 0);
    }

    /** A CHECK tells nothing of a CLASH of the CHECK ahead of it. */
    private static void noneOfTheClashAhead() {
        Used x = new Used(DUE);
        int c = x.name(0), d = x.name(0), e = x.name(0), tc = x.of(c), td = x.of(d), te = x.of(e);
        x.define(e, tc);
        due("ahead: unlike", x.check(tc, td), 0);
        x.told("ahead: unlike", 0, 1, c, d, 0);
        due("ahead: alike", x.check(tc, te), 1);
        x.told("ahead: alike", 1, 1, NONE, NONE, 1);
        due("ahead: unlike again", x.check(td, te), 0);
        x.told("ahead: unlike again", 1, 2, d, c, 0);
        due("ahead: the same", x.check(td, td), 1);
        x.told("ahead: the same", 0, 0, NONE, NONE, 1);
    }

    /** "Of the latest CHECK that was not refused" */
    private static void refusedCheckKeepsTheLatest() {
        Used x = new Used(DUE);
        int c = x.name(0), s = x.name(1), tc = x.of(c), sc = x.of(s, tc), p0 = x.parameter(0);
        due("latest: none, unknown", x.check(tc, 3), UNKNOWN);
        due("latest: none, state", x.check(p0, tc), STATE);
        due("latest: none", x.checked(4), STATE);
        due("latest: unlike", x.check(sc, tc), 0);
        for (int refused : new int[] {Integer.MIN_VALUE, -1, 3, Integer.MAX_VALUE}) {
            due("latest: unknown", x.check(refused, tc), UNKNOWN);
            x.told("latest: kept", 0, 1, s, c, 0);
        }
        due("latest: state", x.check(tc, p0), STATE);
        x.told("latest: kept still", 0, 1, s, c, 0);
    }

    /** "(SPENT is)": a CHECK that is SPENT is refused, and not the latest. */
    private static void spentCheckIsNoLatest() {
        Used x = new Used(DUE);
        Scenes.chains(x);
        int c = Scenes.CHAIN_C, k = x.of(Scenes.K), at41 = x.chain(c, Scenes.I, Scenes.COST40);
        due("spent: the first", x.check(at41, c), SPENT);
        for (int what = 0; what <= 4; what++) due("spent: there was none", x.checked(what), STATE);
        due("spent: an answer", x.check(k, c), 1);
        due("spent: again", x.check(c, at41), SPENT);
        x.told("spent: the latest is ahead of it", 1, 1, NONE, NONE, 1);
        int fk = x.of(1, k, k);
        due("spent: unlike", x.check(k, fk), 0);
        x.told("spent: unlike", 1, 2, 0, 1, 0);
        due("spent: with a clash ahead", x.check(at41, c), SPENT);
        x.told("spent: the clash is told still", 1, 2, 0, 1, 0);
    }

    /** What is told of a CHECK does not follow what is DEFINED after it. */
    private static void latestIsAsItWas() {
        Used x = new Used(DUE);
        int c = x.name(0), d = x.name(0), tc = x.of(c), td = x.of(d);
        due("as it was: unlike", x.check(td, tc), 0);
        x.define(d, tc);
        x.name(2);
        x.parameter(1);
        x.told("as it was", 0, 1, d, c, 0);
        due("as it was: alike", x.check(td, tc), 1);
        x.opaque(d, true);
        x.define(d, NONE);
        x.told("as it was, alike", 1, 1, NONE, NONE, 1);
    }

    private static void manyOfNothing() {
        Used x = new Used(DUE);
        many(x, 0, 0, 0, 0, 0);
        int n = x.name(1);
        many(x, 1, 0, 0, 0, 0);
        int p0 = x.parameter(0);
        many(x, 1, 1, 0, 0, 0);
        x.define(n, p0);
        many(x, 1, 1, 1, 1, 0);
        x.opaque(n, true);
        many(x, 1, 1, 1, 0, 0);
        int c = x.name(0), tc = x.of(c);
        many(x, 2, 2, 1, 0, 1);
        x.of(n, tc);
        x.of(n, p0);
        many(x, 2, 4, 1, 0, 2);
        x.opaque(n, false);
        many(x, 2, 4, 1, 1, 2);
        x.define(n, NONE);
        many(x, 2, 4, 0, 0, 2);
    }

    private static void many(Used x, int... want) {
        for (int what = 0; what < want.length; what++) due("many " + what, x.many(what), want[what]);
    }
}
