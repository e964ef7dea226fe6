/** Such runs of calls as boundary cases are met in. */
final class Scenes {
    private static final int NONE = -9;

    private Scenes() {
    }

    static void nothing(Used x) {
    }

    // The numbers in the scene `few`; its next NAME is 6, its next TERM 11.
    static final int C = 0, S = 1, F = 2, D = 3, G = 4, H = 5, FEW_NAMES = 6;
    static final int P0 = 0, P1 = 1, TC = 2, SP0 = 3, SC = 4, FP = 5, DEEP3 = 6, DEEP4 = 7, TD = 8, GC = 9, MIXED = 10;
    static final int FEW_TERMS = 11;

    /** d = c, g(p) = s(p), h(p, q) = f(q, p), which is OPAQUE; a CHECK found g(c) and d unlike. */
    static void few(Used x) {
        for (int arity : new int[] {0, 1, 2, 0, 1, 2}) x.name(arity);
        x.parameter(0);
        x.parameter(1);
        x.of(C);
        x.of(S, P0);
        x.of(S, TC);
        x.of(F, P1, P0);
        x.of(F, TC, SC);
        x.of(S, DEEP3);
        x.of(D);
        x.of(G, TC);
        x.of(F, P0, SC);
        x.define(D, TC);
        x.define(G, SP0);
        x.define(H, FP);
        x.opaque(H, true);
        x.check(GC, TD);
    }

    /** 12 NAMES, their ARITIES 0, 1, 2, 0, 1, 2 .., of which 3 is DEFINED. */
    static void allNames(Used x) {
        for (int n = 0; n < 12; n++) x.name(n % 3);
        int c = x.of(0);
        x.of(1, c);
        x.define(3, c);
        x.check(x.of(3), c);
    }

    // The numbers in the scenes of many TERMS: 9 NAMES without PARTS, s, f, and e, of which no TERM is made.
    static final int MANY_S = 9, MANY_F = 10, MANY_E = 11;

    /** s(s(s(0))), of DEPTH 4. */
    static final int MANY_DEEP4 = 11;

    /** As many TERMS as told (12 at least), without PARAMETERS. */
    static void terms(Used x, int many) {
        for (int n = 0; n < 9; n++) x.name(0);
        x.name(1);
        x.name(2);
        x.name(0);
        for (int n = 0; n < 9; n++) x.of(n);
        x.chain(0, MANY_S, MANY_S, MANY_S);
        for (int i = 12; i < many; i++) x.of(MANY_F, (i - 12) / 9, (i - 12) % 9);
    }

    static void allTerms(Used x) {
        terms(x, 90);
        x.define(3, 0);
        x.check(3, 1);
    }

    /** 90 TERMS, the last of them PARAMETER 1. */
    static void allTermsAndParameter(Used x) {
        terms(x, 89);
        x.parameter(1);
        x.check(0, 1);
    }

    // The numbers in the scene `chains`.
    static final int I = 2, I3 = 4, I9 = 5, COST38 = 7, COST39 = 8, COST40 = 9, K = 10, K2 = 11;
    static final int CHAIN_C = 1;

    /**
     * c, f, and NAMES of ARITY 1 that leave their PART as it is, by 1, 3, 4, 13, 12, 38, 39 and 40 UNFOLDINGS (i, i2,
     * i3, i9, e12, ..); k and k2 are c. PARAMETER 0 is TERM 0, c TERM 1.
     */
    static void chains(Used x) {
        int c = x.name(0), f = x.name(2), i = x.name(1), i2 = x.name(1), i3 = x.name(1), i9 = x.name(1);
        int e12 = x.name(1), cost38 = x.name(1), cost39 = x.name(1), cost40 = x.name(1);
        int k = x.name(0), k2 = x.name(0);
        int p0 = x.parameter(0);
        int tc = x.of(c);
        x.define(i, p0);
        x.define(i2, x.chain(p0, i, i));
        x.define(i3, x.chain(p0, i, i, i));
        x.define(i9, x.chain(p0, i3, i3, i3));
        x.define(e12, x.chain(p0, i3, i3, i2));
        x.define(cost38, x.chain(p0, i9, e12, e12));
        x.define(cost39, x.chain(p0, i9, i9, e12));
        x.define(cost40, x.chain(p0, i9, i9, i9));
        x.define(k, tc);
        x.define(k2, tc);
    }
}
