/** The promises one by one, with answers worked out by hand from the document. */
public final class PromisesTest {
    private static final int UNKNOWN = -1, OUTSIDE = -2, STATE = -3, FULL = -4, SPENT = -6, NONE = -9;
    private static final long LOST = Long.MIN_VALUE;
    private static final long MOST = 1000000000000000L;
    private static final int[] NO_NUMBERS = {-1, -2, -9, 1000, Integer.MIN_VALUE, Integer.MAX_VALUE};

    private static final Due DUE = new Due();

    private static void due(String call, long got, long want) {
        DUE.due(call, got, want);
    }

    public static void main(String[] args) {
        constants();
        newObject();
        name();
        parameter();
        term();
        termsFull();
        define();
        definedByNoneAnyMore();
        opaque();
        height();
        ofName();
        ofTerm();
        size();
        sizeOfWholes();
        sizesAboveTheMost();
        front();
        checkRefusals();
        checkParts();
        checkHeights();
        checkUnfoldsAsLittleAsMayBe();
        checkJudgesOnce();
        checkClashes();
        checkSpent();
        checkMakesNoTerms();
        checked();
        many();
        leastName();
        deepDefinition();
        objectsAreApart();
        exampleOfReadme();
        DUE.end();
    }

    private static void constants() {
        due("UNKNOWN", LazyNames.UNKNOWN, UNKNOWN);
        due("OUTSIDE", LazyNames.OUTSIDE, OUTSIDE);
        due("STATE", LazyNames.STATE, STATE);
        due("FULL", LazyNames.FULL, FULL);
        due("SPENT", LazyNames.SPENT, SPENT);
        due("NONE", LazyNames.NONE, NONE);
        due("LOST", LazyNames.LOST, LOST);
    }

    // ---- Promise 1

    private static void newObject() {
        LazyNames x = new LazyNames();
        for (int what = 0; what < 5; what++) {
            due("new: many", x.many(what), 0);
            due("new: checked", x.checked(what), STATE);
        }
        due("new: ofName", x.ofName(0, 0), UNKNOWN);
        due("new: ofTerm", x.ofTerm(0, 0), UNKNOWN);
    }

    // ---- Promise 2

    private static void name() {
        LazyNames x = new LazyNames();
        for (int arity : new int[] {-1, 3, Integer.MIN_VALUE, Integer.MAX_VALUE}) {
            due("name: arity", x.name(arity), OUTSIDE);
        }
        for (int n = 0; n < 12; n++) due("name: number", x.name(n % 3), n);
        due("name: full", x.name(0), FULL);
        due("name: outside ahead of full", x.name(3), OUTSIDE);
        for (int n = 0; n < 12; n++) due("name: arity kept", x.ofName(n, 0), n % 3);
        due("name: many", x.many(0), 12);
    }

    // ---- Promise 3

    private static void parameter() {
        LazyNames x = new LazyNames();
        for (int i : new int[] {-1, 2, Integer.MIN_VALUE, Integer.MAX_VALUE}) {
            due("parameter: outside", x.parameter(i), OUTSIDE);
        }
        due("parameter(1)", x.parameter(1), 0);
        due("parameter(0)", x.parameter(0), 1);
        due("parameter(1) again", x.parameter(1), 0);
        due("parameter(0) again", x.parameter(0), 1);
        due("parameter: many", x.many(1), 2);
    }

    // ---- Promise 4

    private static void term() {
        LazyNames x = new LazyNames();
        for (int n : NO_NUMBERS) due("term: no such name", x.term(n, NONE, NONE), UNKNOWN);
        int c = x.name(0), s = x.name(1), f = x.name(2);
        due("term: c", x.term(c, NONE, NONE), 0);
        due("term: c again", x.term(c, NONE, NONE), 0);
        due("term: part beyond 0 of c", x.term(c, 0, NONE), OUTSIDE);
        due("term: part beyond 1 of c", x.term(c, NONE, 0), OUTSIDE);
        due("term: part beyond of c, no term", x.term(c, 55, NONE), OUTSIDE);
        due("term: part beyond 1 of s", x.term(s, 0, 0), OUTSIDE);
        due("term: part beyond 1 of s, no term", x.term(s, 0, -1), OUTSIDE);
        due("term: unknown ahead of outside", x.term(s, 1, 0), UNKNOWN);
        for (int part : NO_NUMBERS) {
            due("term: s of no term", x.term(s, part, NONE), UNKNOWN);
            due("term: f of no term, 0", x.term(f, part, 0), UNKNOWN);
            due("term: f of no term, 1", x.term(f, 0, part), UNKNOWN);
        }
        due("term: s(c)", x.term(s, 0, NONE), 1);
        due("term: f(c, s(c))", x.term(f, 0, 1), 2);
        due("term: f(s(c), c)", x.term(f, 1, 0), 3);
        due("term: f(c, s(c)) again", x.term(f, 0, 1), 2);
        due("term: depth 4", x.term(s, 2, NONE), 4);
        due("term: depth 4 by part 1", x.term(f, 0, 2), 5);
        due("term: depth 5", x.term(s, 4, NONE), STATE);
        due("term: depth 5 by part 0", x.term(f, 4, 0), STATE);
        due("term: depth 5 by part 1", x.term(f, 0, 4), STATE);
        due("term: outside ahead of state", x.term(s, 4, 0), OUTSIDE);
        due("term: unknown ahead of state", x.term(f, 4, 9), UNKNOWN);
        due("term: a parameter as part", x.term(s, x.parameter(0), NONE), 7);
        due("term: many", x.many(1), 8);
    }

    private static void termsFull() {
        LazyNames x = new LazyNames();
        int f = x.name(2);
        int[] low = new int[9];
        for (int i = 0; i < 9; i++) low[i] = x.term(x.name(0), NONE, NONE);
        for (int i = 0; i < 81; i++) due("full: term " + i, x.term(f, low[i / 9], low[i % 9]), 9 + i);
        due("full: many", x.many(1), 90);
        due("full: parameter", x.parameter(0), FULL);
        due("full: parameter outside", x.parameter(2), OUTSIDE);
        due("full: a term anew", x.term(f, 9, 0), FULL);
        due("full: a term that was made", x.term(f, low[4], low[5]), 9 + 41);
        due("full: a name without parts anew", x.term(x.name(0), NONE, NONE), FULL);
        due("full: its last number", x.ofTerm(89, 0), f);
        due("full: nothing more", x.many(1), 90);
        due("full: checks go on", x.check(9, 10), 0);

        LazyNames y = new LazyNames();
        int g = y.name(2), s = y.name(1), c = y.name(0);
        y.parameter(1);
        int at = y.term(c, NONE, NONE);
        int chain = y.term(s, y.term(s, y.term(s, at, NONE), NONE), NONE);
        due("full: chain", chain, 4);
        for (int i = 0; y.many(1) < 90; i++) y.term(g, i % 4, i / 4);
        due("full: state ahead of full", y.term(s, chain, NONE), STATE);
        due("full: parameter that was made", y.parameter(1), 0);
    }

    // ---- Promise 5

    private static void define() {
        LazyNames x = new LazyNames();
        for (int n : NO_NUMBERS) due("define: no such name", x.define(n, NONE), UNKNOWN);
        int c = x.name(0), s = x.name(1), f = x.name(2), d = x.name(0);
        int p0 = x.parameter(0), p1 = x.parameter(1);
        int tc = x.term(c, NONE, NONE), td = x.term(d, NONE, NONE);
        int sp0 = x.term(s, p0, NONE), fp = x.term(f, p0, p1), fc = x.term(f, tc, tc);
        for (int none : new int[] {-1, -2, 90, Integer.MIN_VALUE, Integer.MAX_VALUE}) {
            due("define: no such term", x.define(f, none), UNKNOWN);
        }
        due("define: itself", x.define(c, tc), STATE);
        due("define: by a greater name", x.define(s, fc), STATE);
        due("define: by itself within", x.define(s, sp0), STATE);
        due("define: by a greater name alone", x.define(f, td), STATE);
        due("define: arity 0 by parameter 0", x.define(d, p0), STATE);
        due("define: arity 0 by parameter 1 within", x.define(d, fp), STATE);
        due("define: arity 1 by parameter 1", x.define(s, p1), STATE);
        due("define: refusals change nothing", x.many(2), 0);
        due("define: arity 1 by parameter 0", x.define(s, p0), NONE);
        due("define: arity 1 by a closed term", x.define(s, tc), p0);
        due("define: arity 2 by parameter 1", x.define(f, p1), NONE);
        due("define: arity 2 by s(p0)", x.define(f, sp0), p1);
        due("define: a refused one", x.define(f, fp), STATE);
        due("define: it stays", x.ofName(f, 1), sp0);
        due("define: arity 0 by a closed term", x.define(d, fc), NONE);
        due("define: by the same", x.define(d, fc), fc);
    }

    private static void definedByNoneAnyMore() {
        LazyNames x = new LazyNames();
        int c = x.name(0), d = x.name(0);
        int tc = x.term(c, NONE, NONE), td = x.term(d, NONE, NONE);
        due("define: by none, it was not", x.define(d, NONE), NONE);
        due("define: by c", x.define(d, tc), NONE);
        due("define: alike", x.check(td, tc), 1);
        due("define: by none any more", x.define(d, NONE), tc);
        due("define: no longer alike", x.check(td, tc), 0);
        due("define: none", x.ofName(d, 1), NONE);
        due("define: height 0", x.ofName(d, 3), 0);
        due("define: many", x.many(2), 0);
    }

    // ---- Promise 6

    private static void opaque() {
        LazyNames x = new LazyNames();
        for (int n : NO_NUMBERS) due("opaque: no such name", x.opaque(n, true), UNKNOWN);
        int c = x.name(0), d = x.name(0), e = x.name(0);
        int tc = x.term(c, NONE, NONE), td = x.term(d, NONE, NONE), te = x.term(e, NONE, NONE);
        x.define(d, tc);
        x.define(e, td);
        due("opaque: not at first", x.opaque(d, false), 0);
        due("opaque: true", x.opaque(d, true), 1);
        due("opaque: true again", x.opaque(d, true), 0);
        due("opaque: still defined", x.ofName(d, 1), tc);
        due("opaque: height", x.ofName(d, 3), 0);
        due("opaque: height above", x.ofName(e, 3), 1);
        due("opaque: not unfolded", x.check(te, tc), 0);
        due("opaque: unfolded down to it", x.check(te, td), 1);
        due("opaque: size unfolded", x.size(td, 1), 0);
        due("opaque: front", x.front(te), d);
        due("opaque: false", x.opaque(d, false), 1);
        due("opaque: height again", x.ofName(e, 3), 2);
        due("opaque: unfolded again", x.check(te, tc), 1);
        due("opaque: not defined", x.opaque(c, true), 1);
        due("opaque: kept", x.ofName(c, 2), 1);
    }

    // ---- Promise 7

    private static void height() {
        LazyNames x = new LazyNames();
        int c = x.name(0), i = x.name(1), f = x.name(2), g = x.name(2), h = x.name(0);
        int p0 = x.parameter(0), p1 = x.parameter(1), tc = x.term(c, NONE, NONE);
        due("height: not defined", x.ofName(i, 3), 0);
        x.define(i, p0);
        due("height: a parameter alone", x.ofName(i, 3), 1);
        x.define(g, x.term(f, x.term(i, p0, NONE), p1));
        due("height: a name deep within", x.ofName(g, 3), 2);
        x.define(h, x.term(f, tc, x.term(g, tc, x.term(i, tc, NONE))));
        due("height: the greatest within", x.ofName(h, 3), 3);
        x.opaque(g, true);
        due("height: an opaque one hides what it is", x.ofName(h, 3), 2);
        x.define(i, NONE);
        due("height: none within is folded", x.ofName(h, 3), 1);
        x.opaque(h, true);
        due("height: opaque", x.ofName(h, 3), 0);
        x.define(i, tc);
        x.opaque(h, false);
        x.opaque(g, false);
        due("height: all again", x.ofName(h, 3), 3);
    }

    private static void ofName() {
        LazyNames x = new LazyNames();
        for (int n : NO_NUMBERS) due("ofName: no such name", x.ofName(n, 0), UNKNOWN);
        int s = x.name(1);
        for (int what : new int[] {-1, 4, Integer.MIN_VALUE, Integer.MAX_VALUE}) {
            due("ofName: outside", x.ofName(s, what), OUTSIDE);
            due("ofName: unknown ahead of outside", x.ofName(1, what), UNKNOWN);
        }
        due("ofName: arity", x.ofName(s, 0), 1);
        due("ofName: not defined", x.ofName(s, 1), NONE);
        due("ofName: not opaque", x.ofName(s, 2), 0);
        due("ofName: height", x.ofName(s, 3), 0);
        int p0 = x.parameter(0);
        x.define(s, p0);
        x.opaque(s, true);
        due("ofName: defined", x.ofName(s, 1), p0);
        due("ofName: opaque", x.ofName(s, 2), 1);
    }

    // ---- Promise 8

    private static void ofTerm() {
        LazyNames x = new LazyNames();
        int c = x.name(0), s = x.name(1), f = x.name(2);
        int p1 = x.parameter(1), tc = x.term(c, NONE, NONE), sc = x.term(s, tc, NONE), fx = x.term(f, sc, p1);
        row(x, p1, NONE, NONE, NONE, 1, 0, 1);
        row(x, tc, c, NONE, NONE, NONE, 1, 1);
        row(x, sc, s, tc, NONE, NONE, 1, 2);
        row(x, fx, f, sc, p1, NONE, 0, 3);
        row(x, x.term(f, tc, sc), f, tc, sc, NONE, 1, 3);
        row(x, x.parameter(0), NONE, NONE, NONE, 0, 0, 1);
        row(x, x.term(s, fx, NONE), s, fx, NONE, NONE, 0, 4);
        for (int what : new int[] {-1, 6, Integer.MIN_VALUE, Integer.MAX_VALUE}) {
            due("ofTerm: outside", x.ofTerm(tc, what), OUTSIDE);
            due("ofTerm: unknown ahead of outside", x.ofTerm(50, what), UNKNOWN);
        }
        for (int none : NO_NUMBERS) due("ofTerm: no such term", x.ofTerm(none, 0), UNKNOWN);
        due("ofTerm: the next number", x.ofTerm(x.many(1), 0), UNKNOWN);
    }

    private static void row(LazyNames x, int term, int... want) {
        for (int what = 0; what < want.length; what++) {
            due("ofTerm(" + term + ", " + what + ")", x.ofTerm(term, what), want[what]);
        }
    }

    // ---- Promise 9

    private static void sizes(LazyNames x, int term, long... want) {
        for (int what = 0; what < want.length; what++) {
            due("size(" + term + ", " + what + ")", x.size(term, what), want[what]);
        }
    }

    private static void size() {
        LazyNames x = new LazyNames();
        int c = x.name(0), f = x.name(2), g = x.name(2);
        int p0 = x.parameter(0), p1 = x.parameter(1), tc = x.term(c, NONE, NONE);
        for (int none : NO_NUMBERS) due("size: no such term", x.size(none, 0), LOST);
        for (int what : new int[] {-1, 4, Integer.MIN_VALUE, Integer.MAX_VALUE}) {
            due("size: outside", x.size(tc, what), LOST);
        }
        sizes(x, p1, 1, 0, 1, 0);
        sizes(x, tc, 1, 0, 1, 0);
        int fcc = x.term(f, tc, tc), gx = x.term(g, fcc, p1);
        sizes(x, fcc, 3, 0, 3, 0);
        sizes(x, gx, 5, 0, 5, 0);
        // g(a, b) = f(b, f(b, a))
        x.define(g, x.term(f, p1, x.term(f, p1, p0)));
        sizes(x, gx, 5, 7, 7, 1);
        sizes(x, x.term(g, p0, fcc), 5, 9, 9, 1);
        // Parts go in place as they are, with their own parameters.
        sizes(x, x.term(g, p1, p0), 3, 5, 5, 1);
        x.opaque(g, true);
        sizes(x, gx, 5, 0, 5, 0);
    }

    private static void sizeOfWholes() {
        LazyNames x = new LazyNames();
        int c = x.name(0), f = x.name(2), twice = x.name(1), first = x.name(2), d = x.name(0);
        int p0 = x.parameter(0), tc = x.term(c, NONE, NONE), td = x.term(d, NONE, NONE);
        x.define(twice, x.term(f, p0, p0));
        x.define(first, p0);
        x.define(d, tc);
        int once = x.term(twice, td, NONE), again = x.term(twice, once, NONE);
        // The front first: then each PART stands there twice, and is unfolded twice.
        sizes(x, once, 2, 3, 3, 3);
        sizes(x, again, 3, 5, 7, 7);
        // A PART that falls away is not unfolded.
        sizes(x, x.term(first, tc, again), 5, 1, 1, 1);
        sizes(x, x.term(first, again, tc), 5, 3, 7, 8);
        sizes(x, x.term(f, again, once), 6, 0, 11, 10);
        sizes(x, x.term(first, p0, again), 5, 1, 1, 1);
    }

    /** Names by which a TERM becomes a tree with as many leaves as 2 to the 48th and the 49th. */
    private static void sizesAboveTheMost() {
        LazyNames x = new LazyNames();
        int c = x.name(0), f = x.name(2), t1 = x.name(1), t3 = x.name(1), t9 = x.name(1);
        int t27 = x.name(1), t45 = x.name(1), t48 = x.name(1), t49 = x.name(1), first = x.name(2), u = x.name(1);
        int p0 = x.parameter(0), tc = x.term(c, NONE, NONE);
        x.define(t1, x.term(f, p0, p0));
        x.define(t3, x.term(t1, x.term(t1, x.term(t1, p0, NONE), NONE), NONE));
        x.define(t9, x.term(t3, x.term(t3, x.term(t3, p0, NONE), NONE), NONE));
        x.define(t27, x.term(t9, x.term(t9, x.term(t9, p0, NONE), NONE), NONE));
        x.define(t45, x.term(t27, x.term(t9, x.term(t9, p0, NONE), NONE), NONE));
        x.define(t48, x.term(t45, x.term(t3, p0, NONE), NONE));
        x.define(t49, x.term(t1, x.term(t48, p0, NONE), NONE));
        x.define(first, p0);
        x.define(u, x.term(t48, x.term(t48, p0, NONE), NONE));
        sizes(x, x.term(t1, tc, NONE), 2, 3, 3, 1);
        sizes(x, x.term(t3, tc, NONE), 2, 4, 15, 1 + 1 + 2 + 4);
        // t9: 1, and 1 + 8 + 64 times what t3 takes.
        sizes(x, x.term(t9, tc, NONE), 2, 4, 1023, 1 + 73 * 8);
        int at48 = x.term(t48, tc, NONE), at49 = x.term(t49, tc, NONE), atU = x.term(u, tc, NONE);
        due("size: of 2 to the 48th leaves", x.size(at48, 2), (1L << 49) - 1);
        due("size: of 2 to the 49th leaves", x.size(at49, 2), MOST);
        due("size: of 2 to the 96th leaves", x.size(atU, 2), MOST);
        due("unfoldings: of 2 to the 96th leaves", x.size(atU, 3), MOST);
        due("size: parameters are capped too", x.size(x.term(t49, p0, NONE), 2), MOST);
        due("size: f of two", x.size(x.term(f, atU, atU), 2), MOST);
        due("unfoldings: f of two", x.size(x.term(f, atU, atU), 3), MOST);
        sizes(x, x.term(first, tc, atU), 4, 1, 1, 1);
        x.opaque(t1, true);
        due("size: opaque t1", x.size(x.term(t3, tc, NONE), 2), 4);
        due("unfoldings: opaque t1", x.size(x.term(t9, tc, NONE), 3), 4);
        due("size: a chain of t1", x.size(atU, 2), 97);
        // t3: 1; t9: 4; t27: 13; t45: 1 + 13 + 4 + 4; t48: 1 + 22 + 1; u: 1 + 24 + 24.
        due("unfoldings: a chain of t1", x.size(atU, 3), 49);
    }

    // ---- Promise 10

    private static void front() {
        LazyNames x = new LazyNames();
        for (int none : NO_NUMBERS) due("front: no such term", x.front(none), UNKNOWN);
        int c = x.name(0), f = x.name(2), second = x.name(2), swap = x.name(2), d = x.name(0);
        int p0 = x.parameter(0), p1 = x.parameter(1), tc = x.term(c, NONE, NONE), td = x.term(d, NONE, NONE);
        due("front: parameter 0", x.front(p0), 100);
        due("front: parameter 1", x.front(p1), 101);
        due("front: a name", x.front(td), d);
        int sec = x.term(second, p1, p0), swapped = x.term(swap, p1, td);
        due("front: not defined", x.front(sec), second);
        x.define(second, p1);
        x.define(swap, sec);
        x.define(d, tc);
        due("front: part 1", x.front(sec), 100);
        due("front: swapped", x.front(swapped), 101);
        due("front: part 1 of part 1", x.front(x.term(second, tc, x.term(second, tc, swapped))), 101);
        due("front: what is in front is unfolded", x.front(x.term(second, p0, td)), c);
        due("front: f stays", x.front(x.term(second, p0, x.term(f, td, td))), f);
        x.opaque(d, true);
        due("front: opaque", x.front(x.term(swap, td, p0)), d);
        x.opaque(second, true);
        due("front: opaque within", x.front(swapped), second);
    }

    // ---- Promise 11, 12

    private static void checkRefusals() {
        LazyNames x = new LazyNames();
        int c = x.name(0), s = x.name(1);
        int p0 = x.parameter(0), tc = x.term(c, NONE, NONE), sp = x.term(s, p0, NONE);
        for (int none : NO_NUMBERS) {
            due("check: no x", x.check(none, tc), UNKNOWN);
            due("check: no y", x.check(tc, none), UNKNOWN);
            due("check: unknown ahead of state", x.check(p0, none), UNKNOWN);
        }
        due("check: x is open", x.check(sp, tc), STATE);
        due("check: y is open", x.check(tc, sp), STATE);
        due("check: the same, but open", x.check(p0, p0), STATE);
        due("check: refused ones are none", x.checked(0), STATE);
        due("check: the same", x.check(tc, tc), 1);
        told(x, "the same", 0, 0, NONE, NONE, 1);
        due("check: refused again", x.check(sp, sp), STATE);
        told(x, "refused again", 0, 0, NONE, NONE, 1);
    }

    private static void told(LazyNames x, String of, int... want) {
        for (int what = 0; what < want.length; what++) {
            due(of + ": checked(" + what + ")", x.checked(what), want[what]);
        }
    }

    private static void checkParts() {
        LazyNames x = new LazyNames();
        int c = x.name(0), d = x.name(0), f = x.name(2), e = x.name(0);
        int tc = x.term(c, NONE, NONE), td = x.term(d, NONE, NONE), te = x.term(e, NONE, NONE);
        x.define(e, tc);
        due("parts: alike", x.check(x.term(f, tc, te), x.term(f, te, tc)), 1);
        told(x, "parts: alike", 2, 3, NONE, NONE, 1);
        due("parts: the first is not", x.check(x.term(f, tc, te), x.term(f, td, tc)), 0);
        told(x, "parts: the first is not", 0, 2, c, d, 0);
        due("parts: the second is not", x.check(x.term(f, te, td), x.term(f, tc, te)), 0);
        // (e, c), then (d, e): e is unfolded, (d, c) clashes
        told(x, "parts: the second is not", 2, 4, d, c, 0);
        due("parts: a name against f", x.check(tc, x.term(f, tc, tc)), 0);
        told(x, "parts: a name against f", 0, 1, c, f, 0);
    }

    private static void checkHeights() {
        LazyNames x = new LazyNames();
        int c = x.name(0), one = x.name(0), two = x.name(0), other = x.name(0), tall = x.name(0), odd = x.name(0);
        int tc = x.term(c, NONE, NONE), t1 = x.term(one, NONE, NONE), t2 = x.term(two, NONE, NONE);
        int to = x.term(other, NONE, NONE), tt = x.term(tall, NONE, NONE), td = x.term(odd, NONE, NONE);
        x.define(one, tc);
        x.define(two, t1);
        x.define(other, t1);
        x.define(tall, t2);
        due("heights: the greater is unfolded down to the lesser", x.check(tt, t1), 1);
        told(x, "heights: x greater", 2, 2, NONE, NONE, 1);
        due("heights: y greater", x.check(t1, tt), 1);
        told(x, "heights: y greater", 2, 2, NONE, NONE, 1);
        due("heights: the same", x.check(t2, to), 1);
        told(x, "heights: the same", 2, 1, NONE, NONE, 1);
        due("heights: just x is folded", x.check(tt, tc), 1);
        told(x, "heights: just x is folded", 3, 3, NONE, NONE, 1);
        due("heights: just y is folded", x.check(td, tt), 0);
        told(x, "heights: just y is folded", 3, 4, odd, c, 0);
        x.define(other, tc);
        due("heights: a lesser height, a greater number", x.check(t2, to), 1);
        // two becomes one, then both of height 1 become c
        told(x, "heights: a lesser height, a greater number", 3, 2, NONE, NONE, 1);
    }

    private static void checkUnfoldsAsLittleAsMayBe() {
        LazyNames x = new LazyNames();
        int c = x.name(0), d = x.name(0), f = x.name(2), first = x.name(2), both = x.name(2), e = x.name(0);
        int p0 = x.parameter(0), p1 = x.parameter(1);
        int tc = x.term(c, NONE, NONE), td = x.term(d, NONE, NONE), te = x.term(e, NONE, NONE);
        x.define(first, p0);
        x.define(both, x.term(f, p1, p0));
        x.define(e, tc);
        int a = x.term(both, te, td), b = x.term(both, tc, td);
        due("little: parts are alike", x.check(a, b), 1);
        told(x, "little: parts are alike", 1, 2, NONE, NONE, 1);
        due("little: unlike parts, and a clash again", x.check(b, x.term(both, tc, tc)), 0);
        // (both..), part (d, c) clashes, f(d, c) against f(c, c): (d, c) was judged
        told(x, "little: unlike parts", 2, 3, d, c, 0);
        due("little: the unlike part falls away", x.check(x.term(first, tc, td), x.term(first, tc, te)), 1);
        // part (d, e): e unfolded, (d, c) clashes; then both become c
        told(x, "little: the unlike part falls away", 3, 3, NONE, NONE, 1);
        due("little: not folded", x.check(x.term(f, tc, td), x.term(f, tc, te)), 0);
        told(x, "little: not folded", 1, 3, d, c, 0);
        x.opaque(first, true);
        due("little: opaque", x.check(x.term(first, tc, td), x.term(first, tc, te)), 0);
        told(x, "little: opaque", 1, 3, d, c, 0);
    }

    private static void checkJudgesOnce() {
        LazyNames x = new LazyNames();
        int c = x.name(0), f = x.name(2), e = x.name(0);
        int tc = x.term(c, NONE, NONE), te = x.term(e, NONE, NONE);
        x.define(e, tc);
        due("once: alike", x.check(x.term(f, te, te), x.term(f, tc, tc)), 1);
        told(x, "once: alike", 1, 2, NONE, NONE, 1);
        // (e, c) and (c, e) are two pairs
        int ec = x.term(f, te, tc), ce = x.term(f, tc, te);
        due("once: the other way round", x.check(x.term(f, ec, ec), x.term(f, ce, ce)), 1);
        told(x, "once: the other way round", 2, 4, NONE, NONE, 1);
        due("once: anew in the next check", x.check(te, tc), 1);
        told(x, "once: anew in the next check", 1, 1, NONE, NONE, 1);
        x.define(e, NONE);
        due("once: not as it was in a check before", x.check(te, tc), 0);
        told(x, "once: not as it was in a check before", 0, 1, e, c, 0);

        // Terms that were not made are held once too: g(c) and h(c) both become s(s(c)).
        LazyNames y = new LazyNames();
        int k = y.name(0), s = y.name(1), g = y.name(1), h = y.name(1);
        int p0 = y.parameter(0), ssp = y.term(s, y.term(s, p0, NONE), NONE), tk = y.term(k, NONE, NONE);
        y.define(g, ssp);
        y.define(h, ssp);
        due("once: what comes is the same", y.check(y.term(g, tk, NONE), y.term(h, tk, NONE)), 1);
        told(y, "once: what comes is the same", 2, 1, NONE, NONE, 1);
    }

    private static void checkClashes() {
        LazyNames x = new LazyNames();
        int c = x.name(0), d = x.name(0), e = x.name(0), f = x.name(2), swap = x.name(2), k = x.name(2);
        int p0 = x.parameter(0), p1 = x.parameter(1);
        int tc = x.term(c, NONE, NONE), td = x.term(d, NONE, NONE), te = x.term(e, NONE, NONE);
        x.define(swap, x.term(f, p1, p0));
        x.define(k, p1);
        due("clash: the last", x.check(x.term(swap, tc, tc), x.term(swap, td, te)), 0);
        // part (c, d) clashes; then f(c, c), f(e, d): (c, e) clashes
        told(x, "clash: the last", 2, 4, c, e, 0);
        due("clash: y's name second", x.check(x.term(swap, td, te), x.term(swap, tc, tc)), 0);
        told(x, "clash: y's name second", 2, 4, e, c, 0);
        due("clash: none told of what is alike", x.check(x.term(k, tc, te), x.term(k, td, te)), 1);
        told(x, "clash: none told of what is alike", 2, 2, NONE, NONE, 1);
        // The pair (c, d) was judged ahead of (c, e): its clash is not a new one.
        int one = x.term(f, x.term(k, tc, tc), tc), two = x.term(f, x.term(k, td, tc), td);
        due("clash: judged ahead", x.check(one, two), 0);
        told(x, "clash: judged ahead", 2, 3, c, d, 0);
        int opened = x.term(k, tc, x.term(k, tc, tc)), ended = x.term(k, td, x.term(k, te, td));
        due("clash: judged ahead is not the last", x.check(opened, ended), 0);
        // (c, d) clashes; k(c, c), k(e, d): (c, e) clashes, then (c, d) as it was
        told(x, "clash: judged ahead is not the last", 4, 4, c, e, 0);
    }

    /** Two rows of names, each twice the one ahead of it, over the same s. */
    private static void checkSpent() {
        LazyNames x = new LazyNames();
        int c = x.name(0), d = x.name(0), e = x.name(0), k = x.name(0), f = x.name(2), s = x.name(1);
        int n2 = x.name(1), n3 = x.name(1), n4 = x.name(1), m2 = x.name(1), m3 = x.name(1), m4 = x.name(1);
        int p0 = x.parameter(0);
        int tc = x.term(c, NONE, NONE), td = x.term(d, NONE, NONE);
        int te = x.term(e, NONE, NONE), tk = x.term(k, NONE, NONE);
        x.define(k, tc);
        twice(x, n2, s, p0);
        twice(x, n3, n2, p0);
        twice(x, n4, n3, p0);
        twice(x, m2, s, p0);
        twice(x, m3, m2, p0);
        twice(x, m4, m3, p0);
        int n4c = x.term(n4, tc, NONE), m4c = x.term(m4, tc, NONE);
        due("spent: 14", x.check(n4c, m4c), 1);
        due("spent: 14 unfoldings", x.checked(0), 14);
        int left = x.term(f, n4c, x.term(n4, td, NONE)), leftToo = x.term(f, m4c, x.term(m4, td, NONE));
        due("spent: 28", x.check(left, leftToo), 1);
        due("spent: 28 unfoldings", x.checked(0), 28);
        int n3e = x.term(n3, te, NONE), m3e = x.term(m3, te, NONE);
        int n3k = x.term(n3, tk, NONE), m3k = x.term(m3, tk, NONE), m3c = x.term(m3, tc, NONE);
        int all = x.term(f, left, x.term(f, n3e, n3k));
        due("spent: 40 are not", x.check(all, x.term(f, leftToo, x.term(f, m3e, m3k))), 1);
        due("spent: 40 unfoldings", x.checked(0), 40);
        int pairs = x.checked(1);
        // k against c is one more
        due("spent: 41 by one", x.check(all, x.term(f, leftToo, x.term(f, m3e, m3c))), SPENT);
        told(x, "spent: 41 by one", 40, pairs, NONE, NONE, 1);
        int turned = x.term(f, left, x.term(f, n3k, n3e));
        due("spent: 41 by two at once", x.check(turned, x.term(f, leftToo, x.term(f, m3c, m3e))), SPENT);
        told(x, "spent: 41 by two at once", 40, pairs, NONE, NONE, 1);
        due("spent: not by what stands behind an unlike part",
            x.check(x.term(f, tc, left), x.term(f, td, leftToo)), 0);
        told(x, "spent: not by what stands behind an unlike part", 0, 2, c, d, 0);
        due("spent: the next check", x.check(tk, tc), 1);
        told(x, "spent: the next check", 1, 1, NONE, NONE, 1);
    }

    private static void twice(LazyNames x, int n, int lesser, int p0) {
        due("twice", x.define(n, x.term(lesser, x.term(lesser, p0, NONE), NONE)), NONE);
    }

    private static void checkMakesNoTerms() {
        LazyNames x = new LazyNames();
        int c = x.name(0), s = x.name(1), g = x.name(1), h = x.name(1);
        int p0 = x.parameter(0), sp = x.term(s, p0, NONE), ssp = x.term(s, sp, NONE), tc = x.term(c, NONE, NONE);
        x.define(g, ssp);
        x.define(h, sp);
        int gc = x.term(g, tc, NONE), hc = x.term(h, tc, NONE);
        int many = x.many(1);
        due("makes none: unlike", x.check(gc, hc), 0);
        told(x, "makes none", 2, 3, s, c, 0);
        due("makes none: many", x.many(1), many);
        due("makes none: closed", x.many(4), 3);
        due("makes none: the next number", x.ofTerm(many, 0), UNKNOWN);
        due("makes none: made now", x.term(s, tc, NONE), many);
        due("makes none: and of it", x.term(s, many, NONE), many + 1);
        due("makes none: as before", x.check(gc, hc), 0);
        told(x, "makes none, as before", 2, 3, s, c, 0);
    }

    private static void checked() {
        LazyNames x = new LazyNames();
        for (int what : new int[] {-1, 5, Integer.MIN_VALUE, Integer.MAX_VALUE}) {
            due("checked: outside ahead of state", x.checked(what), OUTSIDE);
        }
        int c = x.name(0), d = x.name(0), tc = x.term(c, NONE, NONE), td = x.term(d, NONE, NONE);
        due("checked: unlike", x.check(tc, td), 0);
        told(x, "checked: unlike", 0, 1, c, d, 0);
        due("checked: refused", x.check(tc, 9), UNKNOWN);
        x.define(d, tc);
        x.opaque(c, true);
        told(x, "checked: as it was then", 0, 1, c, d, 0);
        due("checked: alike", x.check(tc, td), 1);
        told(x, "checked: alike", 1, 1, NONE, NONE, 1);
        for (int what : new int[] {-1, 5, Integer.MIN_VALUE, Integer.MAX_VALUE}) {
            due("checked: outside", x.checked(what), OUTSIDE);
        }
    }

    // ---- Promise 13

    private static void many() {
        LazyNames x = new LazyNames();
        for (int what : new int[] {-1, 5, Integer.MIN_VALUE, Integer.MAX_VALUE}) {
            due("many: outside", x.many(what), OUTSIDE);
        }
        int c = x.name(0), s = x.name(1), d = x.name(0), g = x.name(1);
        int p0 = x.parameter(0), tc = x.term(c, NONE, NONE);
        x.term(s, p0, NONE);
        x.term(s, tc, NONE);
        x.define(s, p0);
        x.define(d, tc);
        x.opaque(d, true);
        x.opaque(g, true);
        due("many: names", x.many(0), 4);
        due("many: terms", x.many(1), 4);
        due("many: defined", x.many(2), 2);
        due("many: folded", x.many(3), 1);
        due("many: closed", x.many(4), 2);
    }

    /** The least NAME has no lesser ones, but may stand for a PARAMETER. */
    private static void leastName() {
        LazyNames x = new LazyNames();
        int first = x.name(2), c = x.name(0), s = x.name(1);
        int tc = x.term(c, NONE, NONE), p0 = x.parameter(0);
        int part = x.term(first, tc, x.term(s, tc, NONE));
        due("least: define", x.define(first, p0), NONE);
        due("least: defined", x.many(2), 1);
        due("least: folded", x.many(3), 1);
        due("least: closed", x.many(4), 3);
        due("least: height", x.ofName(first, 3), 1);
        x.define(s, x.term(first, p0, p0));
        due("least: height above", x.ofName(s, 3), 2);
        due("least: check", x.check(part, tc), 1);
        told(x, "least", 1, 1, NONE, NONE, 1);
        due("least: front", x.front(part), c);
    }

    /** A definition of DEPTH 4 with PARAMETERS at its deepest, PART 0 and PART 1 of each NAME. */
    private static void deepDefinition() {
        LazyNames x = new LazyNames();
        int c = x.name(0), d = x.name(0), f = x.name(2), g = x.name(2), h = x.name(2);
        int p0 = x.parameter(0), p1 = x.parameter(1);
        int tc = x.term(c, NONE, NONE), td = x.term(d, NONE, NONE);
        int low = x.term(f, p0, p1), mid = x.term(f, tc, low);
        x.define(g, x.term(f, td, mid));
        x.define(h, x.term(f, td, x.term(f, tc, x.term(f, p0, p0))));
        int made = x.term(f, td, x.term(f, tc, x.term(f, tc, td)));
        due("deep: as it was made", x.check(x.term(g, tc, td), made), 1);
        told(x, "deep: as it was made", 1, 1, NONE, NONE, 1);
        due("deep: unlike", x.check(x.term(g, tc, td), x.term(h, tc, td)), 0);
        // both become f: (g, h), (f.., f..) and twice deeper down the second part, (d, c)
        told(x, "deep: unlike", 2, 5, d, c, 0);
        due("deep: of other depth", x.check(x.term(g, tc, x.term(f, tc, td)), x.term(g, tc, td)), 0);
        // (g, g), (f(c, d), d): a clash; what comes: f, f, f, and (f(c, d), d) was judged
        told(x, "deep: of other depth", 2, 5, f, d, 0);
    }

    private static void objectsAreApart() {
        LazyNames x = new LazyNames(), y = new LazyNames();
        int c = x.name(0), tc = x.term(c, NONE, NONE);
        due("apart: check", x.check(tc, tc), 1);
        due("apart: names", y.many(0), 0);
        due("apart: terms", y.many(1), 0);
        due("apart: checked", y.checked(4), STATE);
    }

    /** README.md's example, line by line. */
    private static void exampleOfReadme() {
        LazyNames x = new LazyNames();
        int c = x.name(0), s = x.name(1), two = x.name(1);
        int p = x.parameter(0);
        due("readme: define", x.define(two, x.term(s, x.term(s, p, -9), -9)), NONE);
        int zero = x.term(c, -9, -9);
        int a = x.term(two, zero, -9);
        int b = x.term(s, x.term(s, zero, -9), -9);
        due("readme: check", x.check(a, b), 1);
        due("readme: unfoldings", x.checked(0), 1);
        due("readme: size of the whole", x.size(a, 2), 3);
        due("readme: front", x.front(a), s);
        due("readme: opaque", x.opaque(two, true), 1);
        due("readme: check, then", x.check(a, b), 0);
        due("readme: x's name of the clash", x.checked(2), two);
        due("readme: y's name of the clash", x.checked(3), s);
    }
}
