/** The limits that the document names, each at its boundary and a step to each side, worked out by hand. */
public final class LimitsTest {
    private static final int UNKNOWN = -1, STATE = -3, FULL = -4, SPENT = -6, NONE = -9;
    private static final long MOST = 1000000000000000L;

    private static final Due DUE = new Due();

    private static void due(String call, long got, long want) {
        DUE.due(call, got, want);
    }

    public static void main(String[] args) {
        twelveNames();
        twoParameters();
        depthOfParts();
        depthOfFour();
        ninetyTerms();
        closedTerms();
        definedByLesserNames();
        definedByGreatestName();
        definedByParameters();
        foldedNames();
        heights();
        heightsOfOpaqueNames();
        unfoldedOfAnyDepth();
        checksOfAnyDepth();
        checksOfManyPairsUnderWay();
        checksOfManyTermsNotMade();
        fortyUnfoldings();
        fortyByTwoAtOnce();
        spentAsSoonAs();
        judgedOnce();
        judgedInThisCheckAlone();
        heightsApart();
        sizesAtTheMost();
        unfoldingsAtTheMost();
        callsToTheLast();
        callsBeyondTheLast();
        DUE.end();
    }

    // ==== 1

    /** "NAMES, 12 at most, are numbered from 0 on as they come" */
    private static void twelveNames() {
        for (int arity = 0; arity <= 2; arity++) {
            Used x = new Used(DUE);
            for (int n = 0; n < 12; n++) {
                due("names: ahead of name " + n, x.many(0), n);
                due("names: " + n + " is not yet", x.ofName(n, 0), UNKNOWN);
                due("names: the next", x.name(arity), n);
                due("names: " + n + " is", x.ofName(n, 0), arity);
            }
            due("names: the 13th", x.name(arity), FULL);
            due("names: there are 12", x.many(0), 12);
            due("names: no 12", x.ofName(12, 0), UNKNOWN);
            due("names: 11 is the last", x.ofName(11, 0), arity);
        }
    }

    /** "A TERM is a PARAMETER (0, 1)" */
    private static void twoParameters() {
        Used x = new Used(DUE);
        due("parameters: 1 ahead of 0", x.parameter(1), 0);
        due("parameters: 0", x.parameter(0), 1);
        due("parameters: 1 has its number", x.parameter(1), 0);
        due("parameters: no names are needed", x.many(0), 0);
        due("parameters: which is 0", x.ofTerm(0, 3), 1);
        due("parameters: which is 1", x.ofTerm(1, 3), 0);
    }

    /** "its DEPTH is 1 (a PARAMETER, a NAME without PARTS), or 1 more than the greatest of its PARTS" */
    private static void depthOfParts() {
        Used x = new Used(DUE);
        int c = x.name(0), s = x.name(1), f = x.name(2);
        int p0 = x.parameter(0), p1 = x.parameter(1), tc = x.of(c);
        int sc = x.of(s, tc), ssc = x.of(s, sc);
        int[] terms = {p0, p1, tc, x.of(s, p1), x.of(f, p0, tc), x.of(f, tc, sc), x.of(f, sc, tc), x.of(f, p0, ssc),
            x.of(f, ssc, p0), x.of(f, sc, ssc), x.of(f, ssc, ssc)};
        int[] depths = {1, 1, 1, 2, 2, 3, 3, 4, 4, 4, 4};
        for (int i = 0; i < terms.length; i++) due("depth: of term " + terms[i], x.ofTerm(terms[i], 5), depths[i]);
    }

    /** "4 at most" */
    private static void depthOfFour() {
        for (boolean second : new boolean[] {false, true}) {
            for (boolean parameter : new boolean[] {false, true}) {
                Used x = new Used(DUE);
                int c = x.name(0), f = x.name(2);
                int low = parameter ? x.parameter(0) : x.of(c), at = low;
                for (int depth = 2; depth <= 4; depth++) {
                    at = second ? x.of(f, low, at) : x.of(f, at, low);
                    due("depth: made", x.ofTerm(at, 5), depth);
                }
                due("depth: 5", second ? x.of(f, low, at) : x.of(f, at, low), STATE);
                due("depth: 5 by both", x.of(f, at, at), STATE);
                due("depth: 4 terms", x.many(1), 4);
            }
        }
    }

    /** "TERMS that were made, 90 at most, are numbered from 0 on [..]; one that was made already [..]" */
    private static void ninetyTerms() {
        Used x = new Used(DUE);
        Scenes.terms(x, 12);
        due("terms: 12", x.many(1), 12);
        for (int i = 12; i < 90; i++) {
            int a = (i - 12) / 9, b = (i - 12) % 9;
            due("terms: the next is not yet", x.front(i), UNKNOWN);
            due("terms: the next", x.of(Scenes.MANY_F, a, b), i);
            due("terms: it has its number", x.of(Scenes.MANY_F, a, b), i);
        }
        due("terms: 90", x.many(1), 90);
        due("terms: the 91st", x.of(Scenes.MANY_F, 8, 6), FULL);
        due("terms: no 90", x.front(90), UNKNOWN);
        due("terms: 89 is the last", x.front(89), Scenes.MANY_F);
        due("terms: the first has its number", x.of(0), 0);
        due("terms: the last has its number", x.of(Scenes.MANY_F, 8, 5), 89);
        due("terms: the last against the first", x.check(89, 0), 0);
        due("terms: a definition by the last", x.define(Scenes.MANY_E, 89), NONE);
    }

    /** "CLOSED is a TERM without PARAMETERS in it." */
    private static void closedTerms() {
        Used x = new Used(DUE);
        int c = x.name(0), s = x.name(1), f = x.name(2), k = x.name(2);
        int tc = x.of(c), sc = x.of(s, tc), ssc = x.of(s, sc);
        due("closed: all so far", x.many(4), 3);
        for (int i = 0; i <= 1; i++) {
            int p = x.parameter(i), deep = x.of(f, ssc, x.of(f, tc, x.of(f, sc, p)));
            due("closed: too deep to be made", deep, STATE);
            int open = x.of(f, tc, x.of(f, sc, x.of(f, tc, p))), left = x.of(f, x.of(f, x.of(f, p, tc), sc), tc);
            due("closed: a parameter", x.ofTerm(p, 4), 0);
            due("closed: a parameter as the deepest right", x.ofTerm(open, 4), 0);
            due("closed: a parameter as the deepest left", x.ofTerm(left, 4), 0);
            due("closed: its check", x.check(open, tc), STATE);
        }
        int shut = x.of(f, tc, x.of(f, sc, x.of(f, tc, tc)));
        due("closed: none in it", x.ofTerm(shut, 4), 1);
        // What is UNFOLDED has no PARAMETER in it, but the TERM has.
        x.define(k, tc);
        int falls = x.of(k, x.parameter(0), x.parameter(1));
        due("closed: its whole is", x.front(falls), c);
        due("closed: it is not", x.ofTerm(falls, 4), 0);
        due("closed: so it is not checked", x.check(falls, tc), STATE);
    }

    /** "A NAME may be DEFINED by a TERM of which all NAMES are less than it" */
    private static void definedByLesserNames() {
        // NAMES with two PARTS, so that any may stand anywhere; c is below all.
        Used x = new Used(DUE);
        int c = x.name(0), low = x.name(2), mid = x.name(2), high = x.name(2);
        int tc = x.of(c);
        for (int inside : new int[] {low, mid, high}) {
            int want = inside < mid ? NONE : STATE;
            int at = x.of(inside, tc, tc);
            due("lesser: in front", redefined(x, mid, at), want);
            due("lesser: part 0", redefined(x, mid, x.of(low, at, tc)), want);
            due("lesser: part 1", redefined(x, mid, x.of(low, tc, at)), want);
            due("lesser: the deepest left", redefined(x, mid, x.of(low, x.of(low, at, tc), tc)), want);
            due("lesser: the deepest right", redefined(x, mid, x.of(low, tc, x.of(low, tc, at))), want);
        }
        int e = x.name(0), te = x.of(e);
        due("lesser: a greater one without parts", x.define(mid, te), STATE);
        due("lesser: the same, by the next name", x.define(x.name(0), te), NONE);
        // A greater NAME is not as told, even if it is DEFINED by a lesser, or OPAQUE.
        x.define(e, tc);
        due("lesser: a greater one that is c", x.define(mid, te), STATE);
        x.opaque(e, true);
        due("lesser: a greater one that is opaque", x.define(mid, te), STATE);
        due("lesser: the least by itself", x.define(c, tc), STATE);
        due("lesser: the least by none", x.define(c, NONE), NONE);
    }

    /** What a definition is answered; it is taken back, so that the next answer is NONE again. */
    private static int redefined(Used x, int n, int term) {
        int answer = x.define(n, term);
        x.define(n, NONE);
        return answer;
    }

    private static void definedByGreatestName() {
        Used x = new Used(DUE);
        for (int n = 0; n < 12; n++) x.name(0);
        for (int n = 0; n < 12; n++) due("greatest: term", x.of(n), n);
        due("greatest: 11 by 10", x.define(11, 10), NONE);
        due("greatest: 11 by 11", x.define(11, 11), STATE);
        due("greatest: 10 by 11", x.define(10, 11), STATE);
        due("greatest: 10 by 9", x.define(10, 9), NONE);
        due("greatest: 1 by 0", x.define(1, 0), NONE);
        due("greatest: 0 by 0", x.define(0, 0), STATE);
        due("greatest: 0 by 1", x.define(0, 1), STATE);
        due("greatest: 11 stays", x.ofName(11, 1), 10);
        due("greatest: three are defined", x.many(2), 3);
    }

    /** "and all PARAMETERS less than its ARITY" */
    private static void definedByParameters() {
        Used x = new Used(DUE);
        int f = x.name(2), c = x.name(0);
        int tc = x.of(c), p0 = x.parameter(0), p1 = x.parameter(1);
        for (int arity = 0; arity <= 2; arity++) {
            int n = x.name(arity);
            int by0 = arity > 0 ? NONE : STATE, by1 = arity > 1 ? NONE : STATE;
            due("parameters: 0 alone", redefined(x, n, p0), by0);
            due("parameters: 1 alone", redefined(x, n, p1), by1);
            due("parameters: 0, then 1", redefined(x, n, x.of(f, p0, p1)), by1);
            due("parameters: 1, then 0", redefined(x, n, x.of(f, p1, p0)), by1);
            due("parameters: 0 deepest", redefined(x, n, x.of(f, tc, x.of(f, tc, x.of(f, tc, p0)))), by0);
            due("parameters: 1 deepest", redefined(x, n, x.of(f, x.of(f, x.of(f, p1, tc), tc), tc)), by1);
            due("parameters: none", redefined(x, n, tc), NONE);
        }
        due("parameters: the least name by 1", redefined(x, f, p1), NONE);
    }

    /** "it may be OPAQUE (not at first). It is FOLDED, if it is DEFINED and not OPAQUE." */
    private static void foldedNames() {
        Used x = new Used(DUE);
        int c = x.name(0), d = x.name(0), tc = x.of(c), td = x.of(d);
        due("folded: not opaque at first", x.ofName(d, 2), 0);
        folded(x, td, 0, 0, d);
        x.define(d, tc);
        due("folded: not opaque by a definition", x.ofName(d, 2), 0);
        folded(x, td, 1, 1, c);
        x.opaque(d, true);
        folded(x, td, 1, 0, d);
        x.define(d, NONE);
        due("folded: still opaque without a definition", x.ofName(d, 2), 1);
        folded(x, td, 0, 0, d);
        x.define(d, tc);
        folded(x, td, 1, 0, d);
        x.opaque(d, false);
        folded(x, td, 1, 1, c);
        // OPAQUE ahead of any definition.
        int e = x.name(0), te = x.of(e);
        due("folded: opaque first", x.opaque(e, true), 1);
        due("folded: defined then", x.define(e, tc), NONE);
        due("folded: not unfolded", x.check(te, tc), 0);
        due("folded: one of two", x.many(3), 1);
    }

    private static void folded(Used x, int td, int defined, int folded, int front) {
        due("folded: defined names", x.many(2), defined);
        due("folded: folded names", x.many(3), folded);
        due("folded: height", x.ofName(1, 3), folded);
        due("folded: size of what it becomes", x.size(td, 1), folded);
        due("folded: unfoldings", x.size(td, 3), folded);
        due("folded: front", x.front(td), front);
        due("folded: alike", x.check(td, 0), folded);
        due("folded: unfoldings of the check", x.checked(0), folded);
    }

    /** "HEIGHT of a NAME: 0, if it is not FOLDED; else 1 more than the greatest HEIGHT [..] (0 without any)." */
    private static void heights() {
        Used x = new Used(DUE);
        int p0 = x.parameter(0);
        for (int n = 0; n < 12; n++) {
            x.name(1);
            due("height: not yet", x.ofName(n, 3), 0);
            x.define(n, n == 0 ? p0 : x.of(n - 1, p0));
            due("height: of name " + n, x.ofName(n, 3), n + 1);
        }
        int top = x.of(11, p0);
        due("height: unfoldings from the top", x.size(top, 3), 12);
        due("height: the front from the top", x.front(top), 100);
        x.define(0, NONE);
        for (int n = 0; n < 12; n++) due("height: one less each", x.ofName(n, 3), n);
        due("height: the front from the top, then", x.front(top), 0);
        x.opaque(6, true);
        for (int n = 0; n < 12; n++) due("height: from 6 on anew", x.ofName(n, 3), n < 6 ? n : n - 6);
    }

    private static void heightsOfOpaqueNames() {
        Used x = new Used(DUE);
        int f = x.name(2), a = x.name(1), b = x.name(1), n = x.name(1);
        int p0 = x.parameter(0);
        x.define(a, p0);
        x.define(b, x.of(a, p0));
        int[] parts = {p0, x.of(a, p0), x.of(b, p0)};
        for (int i = 0; i < 3; i++) {
            for (int j = 0; j < 3; j++) {
                x.define(n, x.of(f, parts[i], parts[j]));
                due("height: the greatest of " + i + ", " + j, x.ofName(n, 3), 1 + Math.max(i, j));
                x.opaque(b, true);
                due("height: b opaque", x.ofName(n, 3), i == 1 || j == 1 ? 2 : 1);
                x.opaque(b, false);
            }
        }
        x.opaque(n, true);
        due("height: opaque", x.ofName(n, 3), 0);
    }

    /** "what comes may be of any DEPTH." */
    private static void unfoldedOfAnyDepth() {
        Used x = new Used(DUE);
        int c = x.name(0), s = x.name(1), s3 = x.name(1), s9 = x.name(1);
        int p0 = x.parameter(0), tc = x.of(c);
        x.define(s3, x.chain(p0, s, s, s));
        x.define(s9, x.chain(p0, s3, s3, s3));
        int deep4 = x.chain(tc, s3, s, s), top = x.chain(tc, s9, s9, s9);
        due("any depth: 6 by one unfolding", x.size(deep4, 1), 6);
        due("any depth: 6 in all", x.size(deep4, 2), 6);
        due("any depth: three s3 ahead of s9(s9(c))", x.size(top, 1), 6);
        due("any depth: 27 s and c", x.size(top, 2), 28);
        // Each s9: itself and three s3.
        due("any depth: unfoldings", x.size(top, 3), 12);
        due("any depth: the front", x.front(top), s);
    }

    private static void checksOfAnyDepth() {
        Used x = new Used(DUE);
        int c = x.name(0), d = x.name(0), s = x.name(1), s3 = x.name(1), s9 = x.name(1), s27 = x.name(1);
        int t9 = x.name(1), p0 = x.parameter(0), tc = x.of(c), td = x.of(d);
        x.define(s3, x.chain(p0, s, s, s));
        x.define(s9, x.chain(p0, s3, s3, s3));
        x.define(s27, x.chain(p0, s9, s9, s9));
        x.define(t9, x.chain(p0, s3, s3, s3));
        due("any depth: alike at once", x.check(x.of(s9, tc), x.of(t9, tc)), 1);
        x.told("any depth: alike at once", 2, 1, NONE, NONE, 1);
        due("any depth: one s9", x.check(x.of(s9, tc), x.of(s9, td)), 0);
        // (s9, s9), (c, d): a clash. Both become s3(s3(s3(.))), with three pairs of s3 in front down to (c, d). From
        // the innermost on each becomes s(s(s(.))), with three pairs down to what was judged already.
        x.told("any depth: one s9", 2 + 3 * 2, 2 + 3 + 3 * 3, c, d, 0);
        // Each further s9 takes as much, but for (c, d); s27 takes one pair and two UNFOLDINGS.
        due("any depth: two s9", x.check(x.chain(tc, s9, s9), x.chain(td, s9, s9)), 0);
        x.told("any depth: two s9", 16, 27, c, d, 0);
        due("any depth: four s9", x.check(x.chain(tc, s27, s9), x.chain(td, s27, s9)), 0);
        x.told("any depth: four s9", 34, 54, c, d, 0);
        int five = x.chain(tc, s27, s9, s9), fiveToo = x.chain(td, s27, s9, s9), made = x.many(1);
        due("any depth: five s9", x.check(five, fiveToo), SPENT);
        due("any depth: none was made", x.many(1), made);
        due("any depth: the next", x.of(t9, td), made);
    }

    /** Far down PART 0 in each UNFOLDING, so that many pairs wait for what comes below them. */
    private static void checksOfManyPairsUnderWay() {
        Used x = new Used(DUE);
        int c = x.name(0), k = x.name(0), f = x.name(2), a = x.name(1), b = x.name(1), a3 = x.name(1), b3 = x.name(1);
        int a9 = x.name(1), b9 = x.name(1), p0 = x.parameter(0), tc = x.of(c), tk = x.of(k);
        x.define(k, tc);
        x.define(a, x.of(f, x.of(f, x.of(f, p0, tk), tk), tk));
        x.define(b, x.of(f, x.of(f, x.of(f, p0, tc), tc), tc));
        x.define(a3, x.chain(p0, a, a, a));
        x.define(b3, x.chain(p0, b, b, b));
        x.define(a9, x.chain(p0, a3, a3, a3));
        x.define(b9, x.chain(p0, b3, b3, b3));
        int left = x.chain(tk, a9, a3, a), right = x.chain(tc, b9, b3, b);
        // By k each a is higher by 1 than its b: five times, at (a3, b9) and four times at (a, b3), both are UNFOLDED,
        // else one. There are 13 of a, 4 of a3, 1 of a9, as many of b, and three pairs of f for each a; at last (k, c).
        due("under way: alike", x.check(left, right), 1);
        x.told("under way: alike", 2 * 18 + 1, 2 * 18 - 5 + 3 * 13 + 1, NONE, NONE, 1);
        // Now each a is as high as its b: both are UNFOLDED each time.
        x.opaque(k, true);
        due("under way: unlike", x.check(left, right), 0);
        x.told("under way: unlike", 2 * 18, 18 + 3 * 13 + 1, k, c, 0);
    }

    /** Seven TERMS that were not made come by almost each UNFOLDING, and 90 are made. */
    private static void checksOfManyTermsNotMade() {
        Used x = new Used(DUE);
        int c = x.name(0), k = x.name(0), f = x.name(2), h = x.name(2), tc = x.of(c), tk = x.of(k);
        x.define(k, tc);
        int v = wide(x, f, h, tc, tk), w = wide(x, f, h, tc, tk);
        // Pairwise alike, as k is c.
        int left = x.of(v, x.of(h, tc, tc), x.of(f, tc, tc)), right = x.of(w, x.of(h, tc, tk), x.of(f, tc, tk));
        for (int i = 0; x.many(1) < 90; i++) x.of(i % 2 == 0 ? v : w, i / 2 % 9, i / 2 / 9);
        due("not made: alike", x.check(left, right), 1);
        // g: 2 a pair; two of them and more: 2 + 4 * 2; z: 2 + 2 * 10; all: 2 + 22 + 10 + 2, and k against c.
        due("not made: unfoldings", x.checked(0), 37);
        due("not made: as many as before", x.many(1), 90);
        due("not made: the other way round", x.check(right, left), 1);
        due("not made: unfoldings, the other way round", x.checked(0), 37);
        x.opaque(k, true);
        due("not made: unlike", x.check(left, right), 0);
        // all, z, four, g: two UNFOLDINGS each; from there on down PART 0 to (f(p, p), ..), (h(c, c), h(c, k)), (c, k).
        x.told("not made: unlike", 8, 15, c, k, 0);
    }

    /** A NAME with four FOLDED ones about f and h below it, as wide as definitions are. */
    private static int wide(Used x, int f, int h, int tc, int tk) {
        int p0 = x.parameter(0), p1 = x.parameter(1);
        int g = x.name(2), four = x.name(2), z = x.name(2), all = x.name(2);
        x.define(g, x.of(f, x.of(f, x.of(f, p0, p1), x.of(h, p0, p1)), x.of(f, x.of(f, p1, p0), x.of(h, p1, p0))));
        x.define(four, x.of(f, x.of(f, x.of(g, p0, tc), x.of(g, p0, tk)), x.of(f, x.of(g, p1, tc), x.of(g, p1, tk))));
        int low = x.of(four, x.of(f, p0, p0), x.of(h, p0, p0)), high = x.of(four, x.of(f, p1, p1), x.of(h, p1, p1));
        x.define(z, x.of(f, low, high));
        x.define(all, x.of(f, x.of(f, x.of(z, p0, p1), x.of(four, p0, p1)), x.of(f, x.of(g, p0, p1), p1)));
        return all;
    }

    // ==== 2

    /** "A CHECK is SPENT, as soon as more than 40 UNFOLDINGS would be done." */
    private static void fortyUnfoldings() {
        Used x = new Used(DUE);
        Scenes.chains(x);
        int c = Scenes.CHAIN_C, i = Scenes.I;
        int at38 = x.of(Scenes.COST38, c), at39 = x.of(Scenes.COST39, c), at40 = x.of(Scenes.COST40, c);
        due("forty: 38", x.check(at38, c), 1);
        x.told("forty: 38", 38, 38, NONE, NONE, 1);
        due("forty: 39", x.check(at39, c), 1);
        x.told("forty: 39", 39, 39, NONE, NONE, 1);
        due("forty: 40", x.check(at40, c), 1);
        x.told("forty: 40", 40, 40, NONE, NONE, 1);
        due("forty: 40 by y", x.check(c, at40), 1);
        x.told("forty: 40 by y", 40, 40, NONE, NONE, 1);
        due("forty: 40, one more about 39", x.check(x.of(i, at39), c), 1);
        x.told("forty: 40, one more about 39", 40, 40, NONE, NONE, 1);
        int at41 = x.of(i, at40), at42 = x.of(i, at41);
        due("forty: 41", x.check(at41, c), SPENT);
        due("forty: 41 by y", x.check(c, at41), SPENT);
        due("forty: 42", x.check(at42, c), SPENT);
        due("forty: 79", x.check(x.of(Scenes.COST39, at40), c), SPENT);
        x.told("forty: as before", 40, 40, NONE, NONE, 1);
        due("forty: the limit is not used up", x.check(at40, c), 1);
        // size and front go as far as it takes.
        due("forty: unfoldings of 42", x.size(at42, 3), 42);
        due("forty: whole of 42", x.size(at42, 2), 1);
        due("forty: front of 42", x.front(at42), 0);
    }

    /** "both are UNFOLDED (two UNFOLDINGS)": 38 and two are 40, 39 and two are more, 39 and one are not. */
    private static void fortyByTwoAtOnce() {
        Used x = new Used(DUE);
        Scenes.chains(x);
        int c = Scenes.CHAIN_C, f = 1, k = x.of(Scenes.K), k2 = x.of(Scenes.K2);
        int at38 = x.of(Scenes.COST38, c), at39 = x.of(Scenes.COST39, c), at40 = x.of(Scenes.COST40, c);
        due("two: 38 and two", x.check(x.of(f, at38, k), x.of(f, c, k2)), 1);
        x.told("two: 38 and two", 40, 40, NONE, NONE, 1);
        due("two: two and 38", x.check(x.of(f, k, at38), x.of(f, k2, c)), 1);
        x.told("two: two and 38", 40, 40, NONE, NONE, 1);
        due("two: 39 and one", x.check(x.of(f, at39, k), x.of(f, c, c)), 1);
        x.told("two: 39 and one", 40, 41, NONE, NONE, 1);
        due("two: 39 and two", x.check(x.of(f, at39, k), x.of(f, c, k2)), SPENT);
        due("two: two and 39", x.check(x.of(f, k, at39), x.of(f, k2, c)), SPENT);
        due("two: 40 and one", x.check(x.of(f, at40, k), x.of(f, c, c)), SPENT);
        due("two: one and 40", x.check(x.of(f, k, at40), x.of(f, c, c)), SPENT);
        due("two: 40 and two", x.check(x.of(f, at40, k), x.of(f, c, k2)), SPENT);
        x.told("two: as before", 40, 41, NONE, NONE, 1);
        due("two: 40 and none", x.check(x.of(f, at40, k), x.of(f, c, k)), 1);
        x.told("two: 40 and none", 40, 41, NONE, NONE, 1);
    }

    /** An unlike pair ends a CHECK ahead of what would be SPENT, but not if it stands behind it. */
    private static void spentAsSoonAs() {
        Used x = new Used(DUE);
        Scenes.chains(x);
        int c = Scenes.CHAIN_C, f = 1, fc = x.of(f, c, c);
        int at40 = x.of(Scenes.COST40, c), at41 = x.of(Scenes.I, at40);
        due("soon: unlike ahead of 41", x.check(x.of(f, c, at41), x.of(f, fc, c)), 0);
        x.told("soon: unlike ahead of 41", 0, 2, 0, f, 0);
        due("soon: unlike behind 41", x.check(x.of(f, at41, c), x.of(f, c, fc)), SPENT);
        due("soon: unlike behind 40", x.check(x.of(f, at40, c), x.of(f, c, fc)), 0);
        x.told("soon: unlike behind 40", 40, 42, 0, f, 0);
        due("soon: the same 41 are not unfolded", x.check(at41, at41), 1);
        x.told("soon: the same 41 are not unfolded", 0, 0, NONE, NONE, 1);
        due("soon: parts alike, so nothing is unfolded", x.check(x.of(f, at41, x.of(Scenes.K)), x.of(f, at41, c)), 1);
        x.told("soon: parts alike, so nothing is unfolded", 1, 2, NONE, NONE, 1);
    }

    /** "JUDGED are pairs that are not the same TERM and were not judged ahead (each once)." */
    private static void judgedOnce() {
        Used x = new Used(DUE);
        Scenes.chains(x);
        int c = Scenes.CHAIN_C, f = 1, at40 = x.of(Scenes.COST40, c), k = x.of(Scenes.K), k2 = x.of(Scenes.K2);
        // Judged anew, the second would be more than 40.
        due("once: 40 and the same 40", x.check(x.of(f, at40, at40), x.of(f, c, c)), 1);
        x.told("once: 40 and the same 40", 40, 41, NONE, NONE, 1);
        due("once: 40 and the same 40 the other way round", x.check(x.of(f, at40, c), x.of(f, c, at40)), SPENT);
        due("once: no pair", x.check(k, k), 1);
        x.told("once: no pair", 0, 0, NONE, NONE, 1);
        due("once: one pair", x.check(k, k2), 1);
        x.told("once: one pair", 2, 1, NONE, NONE, 1);
        due("once: two pairs, one of them twice", x.check(x.of(f, k, k), x.of(f, k2, k2)), 1);
        x.told("once: two pairs, one of them twice", 2, 2, NONE, NONE, 1);
        due("once: three pairs", x.check(x.of(f, k, k2), x.of(f, k2, k)), 1);
        x.told("once: three pairs", 4, 3, NONE, NONE, 1);
    }

    /** "was judged in this CHECK already": not in one ahead of it. */
    private static void judgedInThisCheckAlone() {
        Used x = new Used(DUE);
        int c = x.name(0), d = x.name(0), tc = x.of(c), td = x.of(d);
        due("this check: unlike", x.check(tc, td), 0);
        x.define(d, tc);
        due("this check: alike now", x.check(tc, td), 1);
        x.told("this check: alike now", 1, 1, NONE, NONE, 1);
        x.opaque(d, true);
        due("this check: unlike again", x.check(tc, td), 0);
        x.told("this check: unlike again", 0, 1, c, d, 0);
        due("this check: the other way round", x.check(td, tc), 0);
        x.told("this check: the other way round", 0, 1, d, c, 0);
    }

    /** "that of the greater HEIGHT, both, if their HEIGHTS are the same": one apart to each side, and the same. */
    private static void heightsApart() {
        Used x = new Used(DUE);
        int c = x.name(0), tc = x.of(c);
        int[] row = new int[4], other = new int[4];
        row[0] = tc;
        other[0] = tc;
        for (int height = 1; height < 4; height++) {
            int a = x.name(0), b = x.name(0);
            x.define(a, row[height - 1]);
            x.define(b, other[height - 1]);
            row[height] = x.of(a);
            other[height] = x.of(b);
            due("apart: height", x.ofName(b, 3), height);
        }
        for (int i = 1; i < 4; i++) {
            for (int j = 1; j < 4; j++) {
                due("apart: alike", x.check(row[i], other[j]), 1);
                // The greater comes down to the lesser one by one; then both go down together, and meet in c.
                x.told("apart: " + i + ", " + j, i + j, Math.max(i, j), NONE, NONE, 1);
            }
        }
    }

    // ==== 3

    /** "What is above 1000000000000000 (10 to the 15th) is told as that": SIZES of 1 less, as much, and more. */
    private static void sizesAtTheMost() {
        Used x = new Used(DUE);
        int c = x.name(0), s = x.name(1), f = x.name(2);
        int by5 = x.name(1), by10 = x.name(1), by1000 = x.name(1), by9 = x.name(1), by13 = x.name(1), all = x.name(1);
        int first = x.name(2);
        int p0 = x.parameter(0), tc = x.of(c), ff = x.of(f, p0, p0);
        // Trees of f alone: so many leaves, and one f less than leaves.
        x.define(by5, x.of(f, x.of(f, ff, p0), ff));
        x.define(by10, x.of(by5, ff));
        x.define(by1000, x.chain(p0, by10, by10, by10));
        x.define(by9, x.chain(p0, by1000, by1000, by1000));
        x.define(by13, x.chain(p0, by9, by1000, by10));
        x.define(all, x.of(by5, x.of(by13, x.of(by10, p0))));
        x.define(first, p0);
        due("most: 5 leaves", x.size(x.of(by5, tc), 2), 9);
        due("most: 1000 leaves", x.size(x.of(by1000, tc), 2), 1999);
        due("most: 10 to the 13th leaves", x.size(x.of(by13, tc), 2), 19999999999999L);
        int less = x.of(all, tc), same = x.of(s, less), more = x.of(s, same);
        due("most: one less", x.size(less, 2), MOST - 1);
        due("most: as much", x.size(same, 2), MOST);
        due("most: one more", x.size(more, 2), MOST);
        due("most: two more", x.size(x.of(f, same, tc), 2), MOST);
        due("most: twice as much", x.size(x.of(f, same, same), 2), MOST);
        due("most: one less, and a part", x.size(x.of(f, less, tc), 2), MOST);
        due("most: of parameters, one less", x.size(x.of(all, p0), 2), MOST - 1);
        due("most: of parameters, as much", x.size(x.of(s, x.of(all, p0)), 2), MOST);
        due("most: multiplied again", x.size(x.of(all, same), 2), MOST);
        due("most: as it stands it is small", x.size(more, 0), 4);
        due("most: nothing in front to be unfolded", x.size(more, 1), 0);
        due("most: a step", x.size(less, 1), 4);
        due("most: what falls away does not count", x.size(x.of(first, tc, same), 2), 1);
        due("most: what stays does", x.size(x.of(first, less, same), 2), MOST - 1);
        x.opaque(f, true);
        due("most: f was not folded anyway", x.size(less, 2), MOST - 1);
        x.opaque(by5, true);
        // by10 then doubles 2 more than the SIZE, 14 times from c on; and one by5 is in front.
        due("most: but by5 was", x.size(less, 2), 3 * 16384 - 2 + 1);
    }

    /**
     * The same of UNFOLDINGS OUTERMOST. Each NAME here has as many PARTS in its WHOLE as one more than the UNFOLDINGS
     * that it takes itself, so that 1 more than all UNFOLDINGS is multiplied by it.
     */
    private static void unfoldingsAtTheMost() {
        Used x = new Used(DUE);
        int c = x.name(0), f = x.name(2), i = x.name(1), by2 = x.name(1), by5 = x.name(1), by50 = x.name(1);
        int by10 = x.name(1), by200 = x.name(1), by4000 = x.name(1), by5000 = x.name(1), by500000 = x.name(1);
        int all = x.name(1);
        int p0 = x.parameter(0), tc = x.of(c), ip = x.of(i, p0);
        x.define(i, p0);
        x.define(by2, x.of(f, p0, p0));
        x.define(by5, x.of(f, x.of(f, x.of(f, p0, p0), ip), x.of(f, ip, ip)));
        twice(x, f, by50, x.chain(p0, by5, by5));
        twice(x, f, by10, x.chain(p0, by5));
        twice(x, f, by200, x.chain(p0, by50, by2));
        twice(x, f, by4000, x.chain(p0, by200, by10));
        twice(x, f, by5000, x.chain(p0, by50, by50));
        twice(x, f, by500000, x.chain(p0, by5000, by50));
        due("most: by 2", x.size(x.of(by2, tc), 3), 1);
        due("most: by 5", x.size(x.of(by5, tc), 3), 4);
        due("most: by 50", x.size(x.of(by50, tc), 3), 49);
        due("most: by 4000", x.size(x.of(by4000, tc), 3), 3999);
        due("most: by 500000", x.size(x.of(by500000, tc), 3), 499999);
        int less = x.chain(tc, by500000, by500000, by4000);
        due("most: one unfolding less", x.size(less, 3), MOST - 1);
        x.define(all, x.chain(p0, by500000, by500000, by4000));
        int same = x.of(all, tc), more = x.of(i, same);
        due("most: as many unfoldings", x.size(same, 3), MOST);
        due("most: one unfolding more", x.size(more, 3), MOST);
        due("most: two unfoldings more", x.size(x.of(i, more), 3), MOST);
        due("most: twice as many unfoldings", x.size(x.of(f, same, same), 3), MOST);
        due("most: of parameters", x.size(x.of(all, p0), 3), MOST);
        due("most: multiplied again", x.size(x.of(all, same), 3), MOST);
        x.opaque(all, true);
        due("most: opaque, none", x.size(same, 3), 0);
        due("most: opaque, one", x.size(more, 3), 1);
    }

    private static void twice(Used x, int f, int n, int half) {
        due("twice", x.define(n, x.of(f, half, half)), NONE);
    }

    // ---- "An object is used for at most 512 calls after it has been made"

    private static void callsToTheLast() {
        Used x = new Used(DUE);
        Scenes.allTerms(x);
        while (x.calls() < Used.MOST_CALLS - 2) {
            due("calls: check", x.check(89, 88), 0);
        }
        due("calls: the 511th", x.check(3, 0), 1);
        due("calls: the 512th", x.checked(0), 1);
    }

    /** "No call may ever throw or fail to end": nor any beyond the 512th, whatever it answers. */
    private static void callsBeyondTheLast() {
        LazyNames x = new LazyNames();
        int[] given = {Integer.MIN_VALUE, NONE, -1, 0, 1, 2, 3, 11, 12, 89, 90, 100, Integer.MAX_VALUE};
        long answers = 0;
        for (int round = 0; round < 40; round++) {
            for (int a : given) {
                for (int b : given) answers += everyCall(x, a, b, given[(round + a & 7) % given.length]);
            }
        }
        DUE.due("calls: many answers", answers > 512);
    }

    private static int everyCall(LazyNames x, int a, int b, int c) {
        x.name(a);
        x.parameter(a);
        x.term(a, b, c);
        x.term(a, b, NONE);
        x.define(a, b);
        x.opaque(a, b > c);
        x.ofName(a, b);
        x.ofTerm(a, b);
        x.size(a, b);
        x.front(a);
        x.check(a, b);
        x.checked(a);
        x.many(a);
        return 13;
    }
}
