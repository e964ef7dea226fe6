/**
 * "REFUSALS: of a call's line the first that fits is answered, in the order told there [..]; they change nothing."
 * Each call's line: at the boundary and a step to each side, with the least and the greatest int; where two refusals
 * fit, which is answered; and that nothing changed.
 */
public final class RefusalsTest {
    private static final int UNKNOWN = -1, OUTSIDE = -2, STATE = -3, FULL = -4, SPENT = -6, NONE = -9;
    private static final long LOST = Long.MIN_VALUE;
    private static final int LEAST = Integer.MIN_VALUE, GREATEST = Integer.MAX_VALUE;

    /** No number of a NAME or a TERM in any state. */
    private static final int[] NEVER = {LEAST, LEAST + 1, -101, -10, NONE, -8, -2, -1, 90, 91, 100, GREATEST - 1,
        GREATEST};

    private static final Due DUE = new Due();
    private static final Scene NOTHING = new Scene(DUE, "nothing", Scenes::nothing);
    private static final Scene FEW = new Scene(DUE, "few", Scenes::few);
    private static final Scene ALL_NAMES = new Scene(DUE, "all names", Scenes::allNames);
    private static final Scene ALL_TERMS = new Scene(DUE, "all terms", Scenes::allTerms);
    private static final Scene WITH_PARAMETER = new Scene(DUE, "a parameter last", Scenes::allTermsAndParameter);
    private static final Scene CHAINS = new Scene(DUE, "chains", Scenes::chains);
    private static final Scene[] SCENES = {NOTHING, FEW, ALL_NAMES, ALL_TERMS, WITH_PARAMETER, CHAINS};

    public static void main(String[] args) {
        nameOutside();
        nameFull();
        parameterOutside();
        parameterFull();
        termUnknownName();
        termUnknownPart();
        termOutside();
        termState();
        termFull();
        defineUnknown();
        defineState();
        opaqueUnknown();
        ofNameRefusals();
        ofTermRefusals();
        sizeLost();
        frontUnknown();
        checkUnknown();
        checkState();
        checkSpent();
        checkedRefusals();
        manyOutside();
        DUE.end();
    }

    /** All that is not within 0 .. last: next to both ends, and the least and the greatest. */
    private static int[] beyond(int last) {
        return new int[] {LEAST, LEAST + 1, NONE, -2, -1, last + 1, last + 2, 100, GREATEST - 1, GREATEST};
    }

    // ---- Promise 2: "OUTSIDE: arity; FULL."

    private static void nameOutside() {
        // In the scene of all NAMES the call would be FULL too: OUTSIDE is first.
        for (Scene scene : SCENES) {
            for (int arity : beyond(2)) scene.refuses("name(" + arity + ")", x -> x.name(arity), OUTSIDE);
        }
        for (int arity = 0; arity <= 2; arity++) {
            int given = arity;
            NOTHING.answers("name(" + arity + ")", x -> x.name(given), 0);
            FEW.answers("name(" + arity + ")", x -> x.name(given), Scenes.FEW_NAMES);
        }
    }

    private static void nameFull() {
        for (Scene scene : new Scene[] {ALL_NAMES, ALL_TERMS, CHAINS}) {
            for (int arity = 0; arity <= 2; arity++) {
                int given = arity;
                scene.refuses("name(" + arity + ")", x -> x.name(given), FULL);
            }
        }
    }

    // ---- Promise 3: "OUTSIDE; FULL: it would be made anew, and there are 90."

    private static void parameterOutside() {
        // In the scenes of all TERMS the call would be FULL too: OUTSIDE is first.
        for (Scene scene : SCENES) {
            for (int i : beyond(1)) scene.refuses("parameter(" + i + ")", x -> x.parameter(i), OUTSIDE);
        }
        NOTHING.answers("parameter(0)", x -> x.parameter(0), 0);
        NOTHING.answers("parameter(1)", x -> x.parameter(1), 0);
        FEW.answers("parameter(0)", x -> x.parameter(0), Scenes.P0);
        FEW.answers("parameter(1)", x -> x.parameter(1), Scenes.P1);
    }

    private static void parameterFull() {
        ALL_TERMS.refuses("parameter(0)", x -> x.parameter(0), FULL);
        ALL_TERMS.refuses("parameter(1)", x -> x.parameter(1), FULL);
        WITH_PARAMETER.refuses("parameter(0)", x -> x.parameter(0), FULL);
        WITH_PARAMETER.answers("parameter(1)", x -> x.parameter(1), 89);
        for (int i = 0; i <= 1; i++) {
            int given = i;
            Scene last = new Scene(DUE, "89 terms", x -> Scenes.terms(x, 89));
            last.answers("parameter(" + i + ")", x -> x.parameter(given), 89);
            last.answers("parameter(" + i + "), then the other", x -> x.parameter(given) - x.parameter(1 - given),
                89 - FULL);
        }
    }

    // ---- Promise 4: "UNKNOWN: the NAME, a PART within its ARITY; OUTSIDE: one beyond it is not NONE; STATE: its DEPTH
    // would be above 4; FULL: it would be made anew, and there are 90."

    private static void termUnknownName() {
        for (int n : NEVER) {
            for (Scene scene : SCENES) scene.refuses("term(" + n + ", -9, -9)", x -> x.term(n, NONE, NONE), UNKNOWN);
            // Whatever the PARTS are: they would be UNKNOWN, or OUTSIDE, or too deep, or it would be FULL.
            FEW.refuses("term(" + n + ", of a deep one)", x -> x.term(n, Scenes.DEEP4, Scenes.DEEP4), UNKNOWN);
            FEW.refuses("term(" + n + ", of the least)", x -> x.term(n, LEAST, GREATEST), UNKNOWN);
            ALL_TERMS.refuses("term(" + n + ", of 0)", x -> x.term(n, 0, NONE), UNKNOWN);
        }
        NOTHING.refuses("term(0, -9, -9)", x -> x.term(0, NONE, NONE), UNKNOWN);
        FEW.refuses("term(the next name)", x -> x.term(Scenes.FEW_NAMES, NONE, NONE), UNKNOWN);
        FEW.answers("term(the last name)", x -> x.term(Scenes.FEW_NAMES - 1, 0, 0), Scenes.FEW_TERMS);
        ALL_NAMES.refuses("term(12)", x -> x.term(12, NONE, NONE), UNKNOWN);
        ALL_NAMES.answers("term(11)", x -> x.term(11, 0, 0), 3);
    }

    private static void termUnknownPart() {
        for (int part : NEVER) {
            // Beyond the ARITY of s stands no NONE: that is OUTSIDE too, and UNKNOWN is first.
            FEW.refuses("term(s, " + part + ")", x -> x.term(Scenes.S, part, NONE), UNKNOWN);
            FEW.refuses("term(s, " + part + ", 0)", x -> x.term(Scenes.S, part, 0), UNKNOWN);
            FEW.refuses("term(s, " + part + ", least)", x -> x.term(Scenes.S, part, LEAST), UNKNOWN);
            FEW.refuses("term(f, " + part + ", c)", x -> x.term(Scenes.F, part, Scenes.TC), UNKNOWN);
            FEW.refuses("term(f, c, " + part + ")", x -> x.term(Scenes.F, Scenes.TC, part), UNKNOWN);
            FEW.refuses("term(f, twice " + part + ")", x -> x.term(Scenes.F, part, part), UNKNOWN);
            // The other PART is too deep: that is STATE too.
            FEW.refuses("term(f, " + part + ", deep)", x -> x.term(Scenes.F, part, Scenes.DEEP4), UNKNOWN);
            FEW.refuses("term(f, deep, " + part + ")", x -> x.term(Scenes.F, Scenes.DEEP4, part), UNKNOWN);
            ALL_TERMS.refuses("term(s, " + part + ")", x -> x.term(Scenes.MANY_S, part, NONE), UNKNOWN);
            ALL_TERMS.refuses("term(f, 89, " + part + ")", x -> x.term(Scenes.MANY_F, 89, part), UNKNOWN);
        }
        FEW.refuses("term(s, the next)", x -> x.term(Scenes.S, Scenes.FEW_TERMS, NONE), UNKNOWN);
        FEW.refuses("term(f, c, the next)", x -> x.term(Scenes.F, Scenes.TC, Scenes.FEW_TERMS), UNKNOWN);
        FEW.refuses("term(f, the next, c)", x -> x.term(Scenes.F, Scenes.FEW_TERMS, Scenes.TC), UNKNOWN);
        FEW.answers("term(s, the last)", x -> x.term(Scenes.S, Scenes.FEW_TERMS - 1, NONE), Scenes.FEW_TERMS);
        FEW.answers("term(f, the last, the first)", x -> x.term(Scenes.F, Scenes.FEW_TERMS - 1, 0), Scenes.FEW_TERMS);
        FEW.answers("term(f, the first, the last)", x -> x.term(Scenes.F, 0, Scenes.FEW_TERMS - 1), Scenes.FEW_TERMS);
        ALL_TERMS.refuses("term(s, 90)", x -> x.term(Scenes.MANY_S, 90, NONE), UNKNOWN);
    }

    private static void termOutside() {
        for (int part : new int[] {LEAST, LEAST + 1, -10, -8, -1, 0, Scenes.FEW_TERMS - 1, Scenes.FEW_TERMS,
            GREATEST - 1, GREATEST}) {
            FEW.refuses("term(c, " + part + ", -9)", x -> x.term(Scenes.C, part, NONE), OUTSIDE);
            FEW.refuses("term(c, -9, " + part + ")", x -> x.term(Scenes.C, NONE, part), OUTSIDE);
            FEW.refuses("term(c, twice " + part + ")", x -> x.term(Scenes.C, part, part), OUTSIDE);
            FEW.refuses("term(s, c, " + part + ")", x -> x.term(Scenes.S, Scenes.TC, part), OUTSIDE);
            // It would be too deep, or FULL: OUTSIDE is ahead of both.
            FEW.refuses("term(s, deep, " + part + ")", x -> x.term(Scenes.S, Scenes.DEEP4, part), OUTSIDE);
            ALL_TERMS.refuses("term(e, " + part + ", -9)", x -> x.term(Scenes.MANY_E, part, NONE), OUTSIDE);
            ALL_TERMS.refuses("term(e, -9, " + part + ")", x -> x.term(Scenes.MANY_E, NONE, part), OUTSIDE);
            ALL_TERMS.refuses("term(s, 89, " + part + ")", x -> x.term(Scenes.MANY_S, 89, part), OUTSIDE);
            // It was made already, but not with such a PART.
            ALL_TERMS.refuses("term(s, 0, " + part + ")", x -> x.term(Scenes.MANY_S, 0, part), OUTSIDE);
        }
        FEW.answers("term(c, -9, -9)", x -> x.term(Scenes.C, NONE, NONE), Scenes.TC);
        FEW.answers("term(s, c, -9)", x -> x.term(Scenes.S, Scenes.TC, NONE), Scenes.SC);
    }

    private static void termState() {
        FEW.refuses("term(s, deep)", x -> x.term(Scenes.S, Scenes.DEEP4, NONE), STATE);
        FEW.refuses("term(f, deep, c)", x -> x.term(Scenes.F, Scenes.DEEP4, Scenes.TC), STATE);
        FEW.refuses("term(f, c, deep)", x -> x.term(Scenes.F, Scenes.TC, Scenes.DEEP4), STATE);
        FEW.refuses("term(f, deep, deep)", x -> x.term(Scenes.F, Scenes.DEEP4, Scenes.DEEP4), STATE);
        // A FOLDED NAME and an OPAQUE one count like any other.
        FEW.refuses("term(g, deep)", x -> x.term(Scenes.G, Scenes.DEEP4, NONE), STATE);
        FEW.refuses("term(h, deep, p0)", x -> x.term(Scenes.H, Scenes.DEEP4, Scenes.P0), STATE);
        FEW.answers("term(g, less deep)", x -> x.term(Scenes.G, Scenes.DEEP3, NONE), Scenes.FEW_TERMS);
        FEW.answers("term(f, less deep twice)", x -> x.term(Scenes.F, Scenes.DEEP3, Scenes.DEEP3), Scenes.FEW_TERMS);
        // It would be made anew, and there are 90: STATE is ahead of FULL.
        ALL_TERMS.refuses("term(s, deep)", x -> x.term(Scenes.MANY_S, Scenes.MANY_DEEP4, NONE), STATE);
        ALL_TERMS.refuses("term(f, 0, deep)", x -> x.term(Scenes.MANY_F, 0, Scenes.MANY_DEEP4), STATE);
        ALL_TERMS.refuses("term(f, deep, 0)", x -> x.term(Scenes.MANY_F, Scenes.MANY_DEEP4, 0), STATE);
    }

    private static void termFull() {
        for (Scene scene : new Scene[] {ALL_TERMS, WITH_PARAMETER}) {
            scene.refuses("term(e)", x -> x.term(Scenes.MANY_E, NONE, NONE), FULL);
            scene.refuses("term(s, 1)", x -> x.term(Scenes.MANY_S, 1, NONE), FULL);
            scene.refuses("term(f, 89, 89)", x -> x.term(Scenes.MANY_F, 89, 89), FULL);
            for (int n = 0; n < 9; n++) {
                int made = n;
                scene.answers("term(" + n + ") was made", x -> x.term(made, NONE, NONE), n);
            }
            scene.answers("term(s, 10) was made", x -> x.term(Scenes.MANY_S, 10, NONE), 11);
            scene.answers("term(f, 0, 0) was made", x -> x.term(Scenes.MANY_F, 0, 0), 12);
        }
        ALL_TERMS.answers("term(f, 8, 5) was made last", x -> x.term(Scenes.MANY_F, 8, 5), 89);
        ALL_TERMS.refuses("term(f, 8, 6)", x -> x.term(Scenes.MANY_F, 8, 6), FULL);
        WITH_PARAMETER.refuses("term(f, 8, 5)", x -> x.term(Scenes.MANY_F, 8, 5), FULL);
        Scene last = new Scene(DUE, "89 terms", x -> Scenes.terms(x, 89));
        last.answers("term(e)", x -> x.term(Scenes.MANY_E, NONE, NONE), 89);
        last.answers("term(s, 1)", x -> x.term(Scenes.MANY_S, 1, NONE), 89);
        last.answers("term(f, 88, 88)", x -> x.term(Scenes.MANY_F, 88, 88), 89);
    }

    // ---- Promise 5: "UNKNOWN; STATE: the TERM is not as told."

    private static void defineUnknown() {
        for (int n : NEVER) {
            for (Scene scene : SCENES) scene.refuses("define(" + n + ", -9)", x -> x.define(n, NONE), UNKNOWN);
            FEW.refuses("define(" + n + ", c)", x -> x.define(n, Scenes.TC), UNKNOWN);
            FEW.refuses("define(" + n + ", no term)", x -> x.define(n, GREATEST), UNKNOWN);
        }
        for (int term : NEVER) {
            if (term == NONE) continue;
            for (Scene scene : SCENES) scene.refuses("define(0, " + term + ")", x -> x.define(0, term), UNKNOWN);
            FEW.refuses("define(h, " + term + ")", x -> x.define(Scenes.H, term), UNKNOWN);
        }
        NOTHING.refuses("define(0, 0)", x -> x.define(0, 0), UNKNOWN);
        FEW.refuses("define(the next, c)", x -> x.define(Scenes.FEW_NAMES, Scenes.TC), UNKNOWN);
        FEW.refuses("define(h, the next)", x -> x.define(Scenes.H, Scenes.FEW_TERMS), UNKNOWN);
        FEW.answers("define(h, the last)", x -> x.define(Scenes.H, Scenes.FEW_TERMS - 1), Scenes.FP);
        ALL_NAMES.refuses("define(12, 0)", x -> x.define(12, 0), UNKNOWN);
        ALL_NAMES.answers("define(11, 0)", x -> x.define(11, 0), NONE);
    }

    private static void defineState() {
        FEW.refuses("define(c, c)", x -> x.define(Scenes.C, Scenes.TC), STATE);
        FEW.refuses("define(c, p0)", x -> x.define(Scenes.C, Scenes.P0), STATE);
        FEW.refuses("define(s, s(c))", x -> x.define(Scenes.S, Scenes.SC), STATE);
        FEW.refuses("define(s, p1)", x -> x.define(Scenes.S, Scenes.P1), STATE);
        FEW.refuses("define(s, f(..))", x -> x.define(Scenes.S, Scenes.DEEP3), STATE);
        FEW.refuses("define(f, s(f(c, s(c))))", x -> x.define(Scenes.F, Scenes.DEEP4), STATE);
        FEW.refuses("define(d, d)", x -> x.define(Scenes.D, Scenes.TD), STATE);
        FEW.refuses("define(d, s(p0))", x -> x.define(Scenes.D, Scenes.SP0), STATE);
        FEW.refuses("define(g, f(p1, p0))", x -> x.define(Scenes.G, Scenes.FP), STATE);
        FEW.refuses("define(g, g(c))", x -> x.define(Scenes.G, Scenes.GC), STATE);
        ALL_TERMS.refuses("define(0, 89)", x -> x.define(0, 89), STATE);
        ALL_TERMS.answers("define(11, 89)", x -> x.define(11, 89), NONE);
    }

    // ---- Promise 6: "UNKNOWN."

    private static void opaqueUnknown() {
        for (boolean is : new boolean[] {true, false}) {
            for (Scene scene : SCENES) {
                for (int n : NEVER) scene.refuses("opaque(" + n + ")", x -> x.opaque(n, is), UNKNOWN);
            }
            NOTHING.refuses("opaque(0)", x -> x.opaque(0, is), UNKNOWN);
            FEW.refuses("opaque(the next)", x -> x.opaque(Scenes.FEW_NAMES, is), UNKNOWN);
            FEW.answers("opaque(the last)", x -> x.opaque(Scenes.FEW_NAMES - 1, is), is ? 0 : 1);
            FEW.answers("opaque(the first)", x -> x.opaque(0, is), is ? 1 : 0);
            ALL_NAMES.refuses("opaque(12)", x -> x.opaque(12, is), UNKNOWN);
            ALL_NAMES.answers("opaque(11)", x -> x.opaque(11, is), is ? 1 : 0);
        }
    }

    // ---- Promise 7: "UNKNOWN; OUTSIDE."

    private static void ofNameRefusals() {
        for (int n : NEVER) {
            for (Scene scene : SCENES) {
                for (int what = 0; what <= 3; what++) {
                    int given = what;
                    scene.refuses("ofName(" + n + ", " + what + ")", x -> x.ofName(n, given), UNKNOWN);
                }
                // Both fit: UNKNOWN is first.
                scene.refuses("ofName(" + n + ", 4)", x -> x.ofName(n, 4), UNKNOWN);
                scene.refuses("ofName(" + n + ", least)", x -> x.ofName(n, LEAST), UNKNOWN);
            }
        }
        for (int what : beyond(3)) {
            for (int n = 0; n < Scenes.FEW_NAMES; n++) {
                int given = n;
                FEW.refuses("ofName(" + n + ", " + what + ")", x -> x.ofName(given, what), OUTSIDE);
            }
            FEW.refuses("ofName(the next, " + what + ")", x -> x.ofName(Scenes.FEW_NAMES, what), UNKNOWN);
            ALL_NAMES.refuses("ofName(11, " + what + ")", x -> x.ofName(11, what), OUTSIDE);
            ALL_NAMES.refuses("ofName(12, " + what + ")", x -> x.ofName(12, what), UNKNOWN);
        }
    }

    // ---- Promise 8: "UNKNOWN; OUTSIDE."

    private static void ofTermRefusals() {
        for (int term : NEVER) {
            for (Scene scene : SCENES) {
                for (int what = 0; what <= 5; what++) {
                    int given = what;
                    scene.refuses("ofTerm(" + term + ", " + what + ")", x -> x.ofTerm(term, given), UNKNOWN);
                }
                // Both fit: UNKNOWN is first.
                scene.refuses("ofTerm(" + term + ", 6)", x -> x.ofTerm(term, 6), UNKNOWN);
                scene.refuses("ofTerm(" + term + ", least)", x -> x.ofTerm(term, LEAST), UNKNOWN);
            }
        }
        for (int what : beyond(5)) {
            for (int term = 0; term < Scenes.FEW_TERMS; term++) {
                int given = term;
                FEW.refuses("ofTerm(" + term + ", " + what + ")", x -> x.ofTerm(given, what), OUTSIDE);
            }
            FEW.refuses("ofTerm(the next, " + what + ")", x -> x.ofTerm(Scenes.FEW_TERMS, what), UNKNOWN);
            ALL_TERMS.refuses("ofTerm(89, " + what + ")", x -> x.ofTerm(89, what), OUTSIDE);
        }
    }

    // ---- Promise 9: "LOST: UNKNOWN; OUTSIDE."

    private static void sizeLost() {
        for (Scene scene : SCENES) {
            for (int term : NEVER) {
                for (int what = -1; what <= 4; what++) {
                    int given = what;
                    scene.refuses("size(" + term + ", " + what + ")", x -> x.size(term, given), LOST);
                }
            }
        }
        for (int what : beyond(3)) {
            for (int term = 0; term <= Scenes.FEW_TERMS; term++) {
                int given = term;
                FEW.refuses("size(" + term + ", " + what + ")", x -> x.size(given, what), LOST);
            }
            ALL_TERMS.refuses("size(89, " + what + ")", x -> x.size(89, what), LOST);
        }
        FEW.refuses("size(the next, 0)", x -> x.size(Scenes.FEW_TERMS, 0), LOST);
        FEW.answers("size(the last, 0)", x -> x.size(Scenes.FEW_TERMS - 1, 0), 4);
    }

    // ---- Promise 10: "UNKNOWN."

    private static void frontUnknown() {
        for (Scene scene : SCENES) {
            for (int term : NEVER) scene.refuses("front(" + term + ")", x -> x.front(term), UNKNOWN);
        }
        NOTHING.refuses("front(0)", x -> x.front(0), UNKNOWN);
        FEW.refuses("front(the next)", x -> x.front(Scenes.FEW_TERMS), UNKNOWN);
        FEW.answers("front(the last)", x -> x.front(Scenes.FEW_TERMS - 1), Scenes.F);
        ALL_TERMS.answers("front(89)", x -> x.front(89), Scenes.MANY_F);
        WITH_PARAMETER.answers("front(89)", x -> x.front(89), 101);
    }

    // ---- Promise 11: "UNKNOWN; STATE: one is not CLOSED; SPENT."

    private static void checkUnknown() {
        for (int term : NEVER) {
            for (Scene scene : SCENES) scene.refuses("check(twice " + term + ")", x -> x.check(term, term), UNKNOWN);
            FEW.refuses("check(" + term + ", c)", x -> x.check(term, Scenes.TC), UNKNOWN);
            FEW.refuses("check(c, " + term + ")", x -> x.check(Scenes.TC, term), UNKNOWN);
            // The other is not CLOSED: that is STATE too.
            FEW.refuses("check(" + term + ", p0)", x -> x.check(term, Scenes.P0), UNKNOWN);
            FEW.refuses("check(p0, " + term + ")", x -> x.check(Scenes.P0, term), UNKNOWN);
        }
        NOTHING.refuses("check(0, 0)", x -> x.check(0, 0), UNKNOWN);
        FEW.refuses("check(c, the next)", x -> x.check(Scenes.TC, Scenes.FEW_TERMS), UNKNOWN);
        FEW.refuses("check(the next, c)", x -> x.check(Scenes.FEW_TERMS, Scenes.TC), UNKNOWN);
        FEW.refuses("check(the next, p1)", x -> x.check(Scenes.FEW_TERMS, Scenes.P1), UNKNOWN);
        FEW.answers("check(c, the last but one)", x -> x.check(Scenes.TC, Scenes.FEW_TERMS - 2), 0);
        ALL_TERMS.answers("check(89, 88)", x -> x.check(89, 88), 0);
        ALL_TERMS.answers("check(89, 89)", x -> x.check(89, 89), 1);
    }

    private static void checkState() {
        for (int open : new int[] {Scenes.P0, Scenes.P1, Scenes.SP0, Scenes.FP, Scenes.MIXED}) {
            FEW.refuses("check(" + open + ", c)", x -> x.check(open, Scenes.TC), STATE);
            FEW.refuses("check(c, " + open + ")", x -> x.check(Scenes.TC, open), STATE);
            FEW.refuses("check(twice " + open + ")", x -> x.check(open, open), STATE);
            FEW.refuses("check(" + open + ", p1)", x -> x.check(open, Scenes.P1), STATE);
        }
        // With c in place of the PARAMETER this would be SPENT.
        Scene open = new Scene(DUE, "an open chain", x -> {
            Scenes.chains(x);
            x.chain(0, Scenes.I, Scenes.COST40);
        });
        open.refuses("check(i(cost40(p0)), c)",
            x -> x.check(x.chain(0, Scenes.I, Scenes.COST40), Scenes.CHAIN_C), STATE);
    }

    private static void checkSpent() {
        Scene first = new Scene(DUE, "spent first", x -> {
            Scenes.chains(x);
            x.chain(Scenes.CHAIN_C, Scenes.I, Scenes.COST40);
        });
        Scene later = new Scene(DUE, "spent later", x -> {
            Scenes.chains(x);
            x.chain(Scenes.CHAIN_C, Scenes.I, Scenes.COST40);
            x.check(x.of(Scenes.K), Scenes.CHAIN_C);
        });
        for (Scene scene : new Scene[] {first, later}) {
            scene.refuses("check of 41", x -> x.check(x.chain(Scenes.CHAIN_C, Scenes.I, Scenes.COST40),
                Scenes.CHAIN_C), SPENT);
            scene.refuses("check of 41 by y", x -> x.check(Scenes.CHAIN_C,
                x.chain(Scenes.CHAIN_C, Scenes.I, Scenes.COST40)), SPENT);
        }
    }

    // ---- Promise 12: "OUTSIDE; STATE: there was none."

    private static void checkedRefusals() {
        for (Scene scene : SCENES) {
            // On a new object both fit: OUTSIDE is first.
            for (int what : beyond(4)) scene.refuses("checked(" + what + ")", x -> x.checked(what), OUTSIDE);
        }
        Scene onlyRefused = new Scene(DUE, "only refused checks", x -> {
            Scenes.chains(x);
            x.check(0, 0);
            x.check(LEAST, GREATEST);
            x.check(x.chain(Scenes.CHAIN_C, Scenes.I, Scenes.COST40), Scenes.CHAIN_C);
        });
        for (int what = 0; what <= 4; what++) {
            int given = what;
            for (Scene scene : new Scene[] {NOTHING, CHAINS, onlyRefused}) {
                scene.refuses("checked(" + what + ")", x -> x.checked(given), STATE);
            }
            FEW.answers("checked(" + what + ")", x -> x.checked(given),
                new int[] {2, 2, Scenes.S, Scenes.C, 0}[what]);
        }
        for (int what : beyond(4)) onlyRefused.refuses("checked(" + what + ")", x -> x.checked(what), OUTSIDE);
    }

    // ---- Promise 13: "OUTSIDE."

    private static void manyOutside() {
        for (Scene scene : SCENES) {
            for (int what : beyond(4)) scene.refuses("many(" + what + ")", x -> x.many(what), OUTSIDE);
        }
        for (int what = 0; what <= 4; what++) {
            int given = what;
            FEW.answers("many(" + what + ")", x -> x.many(given), new int[] {6, 11, 3, 2, 6}[what]);
            ALL_TERMS.answers("many(" + what + ")", x -> x.many(given), new int[] {12, 90, 1, 1, 90}[what]);
            WITH_PARAMETER.answers("many(" + what + ")", x -> x.many(given), new int[] {12, 90, 0, 0, 89}[what]);
        }
    }
}
