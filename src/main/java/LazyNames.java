import java.util.Arrays;

/**
 * Names that stand for terms, and checks whether two terms are alike that unfold as little as may be.
 * Words in capitals are the document's.
 */
public final class LazyNames {
    public static final int UNKNOWN = -1, OUTSIDE = -2, STATE = -3, FULL = -4, SPENT = -6, NONE = -9;
    public static final long LOST = Long.MIN_VALUE;

    private static final int MOST_NAMES = 12;
    private static final int MOST_PARTS = 2;
    private static final int MOST_TERMS = 90;
    private static final int MOST_DEPTH = 4;
    private static final int MOST_UNFOLDINGS = 40;
    private static final long MOST_TOLD = 1000000000000000L;

    /** What stands in front of a PARAMETER is this and its number, as front(x) tells it. */
    private static final int PARAMETER = 100;

    /** A definition has at most 1 + 2 + 4 places above its deepest, and no others come anew by an UNFOLDING. */
    private static final int NEW_BY_UNFOLDING = 7;
    private static final int MOST_HELD = MOST_TERMS + MOST_UNFOLDINGS * NEW_BY_UNFOLDING;

    private final Terms terms;
    private final Names names;
    private final Checker checker;

    public LazyNames() {
        terms = new Terms();
        names = new Names(terms);
        checker = new Checker(terms, names);
    }

    // ---- 1 names, terms

    public int name(int arity) {
        if (arity < 0 || arity > MOST_PARTS) return OUTSIDE;
        return names.come(arity);
    }

    public int parameter(int i) {
        if (i < 0 || i >= MOST_PARTS) return OUTSIDE;
        return terms.numberOf(PARAMETER + i, NONE, NONE);
    }

    public int term(int n, int a, int b) {
        if (!names.has(n)) return UNKNOWN;
        int arity = names.arityOf(n);
        if (arity > 0 && !terms.wasMade(a)) return UNKNOWN;
        if (arity > 1 && !terms.wasMade(b)) return UNKNOWN;
        if (arity < 1 && a != NONE) return OUTSIDE;
        if (arity < 2 && b != NONE) return OUTSIDE;
        if (terms.depthAbove(a, b) > MOST_DEPTH) return STATE;
        return terms.numberOf(n, a, b);
    }

    public int define(int n, int x) {
        if (!names.has(n)) return UNKNOWN;
        if (x == NONE) return names.redefine(n, NONE);
        if (!terms.wasMade(x)) return UNKNOWN;
        if (!names.mayStandFor(n, x)) return STATE;
        return names.redefine(n, x);
    }

    public int opaque(int n, boolean is) {
        if (!names.has(n)) return UNKNOWN;
        return names.cover(n, is) ? 1 : 0;
    }

    public int ofName(int n, int what) {
        if (!names.has(n)) return UNKNOWN;
        switch (what) {
            case 0: return names.arityOf(n);
            case 1: return names.definitionOf(n);
            case 2: return names.isOpaque(n) ? 1 : 0;
            case 3: return names.heightOf(n);
            default: return OUTSIDE;
        }
    }

    public int ofTerm(int x, int what) {
        if (!terms.wasMade(x)) return UNKNOWN;
        int first = terms.frontOf(x);
        switch (what) {
            case 0: return first < PARAMETER ? first : NONE;
            case 1: return terms.partOf(x, 0);
            case 2: return terms.partOf(x, 1);
            case 3: return first < PARAMETER ? NONE : first - PARAMETER;
            case 4: return terms.isClosed(x) ? 1 : 0;
            case 5: return terms.depthOf(x);
            default: return OUTSIDE;
        }
    }

    public long size(int x, int what) {
        if (!terms.wasMade(x)) return LOST;
        switch (what) {
            case 0: return terms.sizeOf(x);
            case 1: return names.sizeUnfolded(x);
            case 2: return names.sizeOfWhole(x);
            case 3: return names.unfoldingsOutermost(x);
            default: return LOST;
        }
    }

    public int front(int x) {
        if (!terms.wasMade(x)) return UNKNOWN;
        return names.frontOfWhole(x);
    }

    // ---- 2 checks

    public int check(int x, int y) {
        if (!terms.wasMade(x) || !terms.wasMade(y)) return UNKNOWN;
        if (!terms.isClosed(x) || !terms.isClosed(y)) return STATE;
        return checker.run(x, y);
    }

    public int checked(int what) {
        return checker.latest(what);
    }

    public int many(int what) {
        switch (what) {
            case 0: return names.howMany();
            case 1: return terms.howMany();
            case 2: return names.howManyDefined();
            case 3: return names.howManyFolded();
            case 4: return terms.howManyClosed();
            default: return OUTSIDE;
        }
    }

    /**
     * The TERMS, each held once, so that the same TERM is the same number: first those that were made, behind
     * them those that only the CHECK under way came by. A TERM's PARTS are always held ahead of it.
     */
    private static final class Terms {
        private final int[] front = new int[MOST_HELD];
        private final int[] firstPart = new int[MOST_HELD];
        private final int[] secondPart = new int[MOST_HELD];

        // What is told only of TERMS that were made.
        private final int[] depth = new int[MOST_TERMS];
        private final int[] size = new int[MOST_TERMS];
        private final int[] namesWithin = new int[MOST_TERMS];
        private final int[] firstParameter = new int[MOST_TERMS];
        private final int[] secondParameter = new int[MOST_TERMS];

        private int made;
        private int held;

        Terms() {
            made = 0;
            held = 0;
        }

        boolean wasMade(int x) {
            return x >= 0 && x < made;
        }

        boolean isHeld(int x) {
            return x >= 0 && x < held;
        }

        int howMany() {
            return made;
        }

        int howManyClosed() {
            int closed = 0;
            for (int x = 0; x < made; x++) {
                if (isClosed(x)) closed++;
            }
            return closed;
        }

        int frontOf(int x) {
            return isHeld(x) ? front[x] : NONE;
        }

        int partOf(int x, int i) {
            if (!isHeld(x)) return NONE;
            return i == 0 ? firstPart[x] : secondPart[x];
        }

        int depthOf(int x) {
            return wasMade(x) ? depth[x] : 0;
        }

        int depthAbove(int a, int b) {
            return 1 + Math.max(depthOf(a), depthOf(b));
        }

        int sizeOf(int x) {
            return wasMade(x) ? size[x] : 0;
        }

        /** Bit n stands for NAME n. */
        int namesIn(int x) {
            return wasMade(x) ? namesWithin[x] : 0;
        }

        int timesOfParameter(int x, int i) {
            if (!wasMade(x)) return 0;
            return i == 0 ? firstParameter[x] : secondParameter[x];
        }

        boolean isClosed(int x) {
            return timesOfParameter(x, 0) == 0 && timesOfParameter(x, 1) == 0;
        }

        /** The number of a TERM, which is made if it was not; FULL. */
        int numberOf(int first, int a, int b) {
            int x = find(first, a, b);
            if (x != NONE) return x;
            if (made >= MOST_TERMS) return FULL;
            x = hold(first, a, b);
            made = held;
            measure(x);
            return x;
        }

        /** What a definition becomes with a, b in place of its PARAMETERS; NONE: it can't be held. */
        int unfolded(int body, int a, int b) {
            return filled(body, a, b, 1);
        }

        private int filled(int x, int a, int b, int level) {
            if (!wasMade(x) || level > MOST_DEPTH) return NONE;
            if (firstParameter[x] == 0 && secondParameter[x] == 0) return x;
            int first = front[x];
            if (first == PARAMETER) return a;
            if (first > PARAMETER) return b;
            int left = filled(firstPart[x], a, b, level + 1);
            int right = filled(secondPart[x], a, b, level + 1);
            int known = find(first, left, right);
            return known != NONE ? known : hold(first, left, right);
        }

        /** TERMS that only a CHECK came by are not made: they go with it. */
        void dropNotMade() {
            held = made;
        }

        private int find(int first, int a, int b) {
            for (int x = 0; x < held; x++) {
                if (front[x] == first && firstPart[x] == a && secondPart[x] == b) return x;
            }
            return NONE;
        }

        private int hold(int first, int a, int b) {
            if (held >= MOST_HELD) return NONE;
            int x = held;
            front[x] = first;
            firstPart[x] = a;
            secondPart[x] = b;
            held++;
            return x;
        }

        private void measure(int x) {
            if (!wasMade(x)) return;
            int first = front[x];
            int a = firstPart[x];
            int b = secondPart[x];
            depth[x] = depthAbove(a, b);
            size[x] = 1 + sizeOf(a) + sizeOf(b);
            namesWithin[x] = namesIn(a) | namesIn(b) | (first < PARAMETER ? 1 << first : 0);
            firstParameter[x] = timesOfParameter(a, 0) + timesOfParameter(b, 0) + (first == PARAMETER ? 1 : 0);
            secondParameter[x] = timesOfParameter(a, 1) + timesOfParameter(b, 1) + (first > PARAMETER ? 1 : 0);
        }
    }

    /**
     * The NAMES, and what follows for each from all definitions: its HEIGHT, and what the WHOLE of the NAME with
     * its PARTS is made of. A WHOLE grows with its PARTS by sums and products alone, so that a WHOLE is measured
     * without being built.
     */
    private static final class Names {
        // What is counted in a WHOLE: how often PART 0 and PART 1 come, the NAMES, the UNFOLDINGS that lead to it.
        private static final int NAMES_COUNTED = 2;
        private static final int UNFOLDINGS_COUNTED = 3;
        private static final int COUNTS = 4;

        private final Terms terms;
        private final int[] arity = new int[MOST_NAMES];
        private final int[] definition = new int[MOST_NAMES];
        private final boolean[] opaque = new boolean[MOST_NAMES];
        private final int[] height = new int[MOST_NAMES];
        private final int[] wholeFront = new int[MOST_NAMES];
        private final long[][] counted = new long[COUNTS][MOST_NAMES];
        private int came;

        Names(Terms terms) {
            this.terms = terms;
            came = 0;
        }

        boolean has(int n) {
            return n >= 0 && n < came;
        }

        int howMany() {
            return came;
        }

        int howManyDefined() {
            int defined = 0;
            for (int n = 0; n < came; n++) {
                if (definition[n] != NONE) defined++;
            }
            return defined;
        }

        int howManyFolded() {
            int folded = 0;
            for (int n = 0; n < came; n++) {
                if (isFolded(n)) folded++;
            }
            return folded;
        }

        int arityOf(int n) {
            return has(n) ? arity[n] : 0;
        }

        int definitionOf(int n) {
            return has(n) ? definition[n] : NONE;
        }

        boolean isOpaque(int n) {
            return has(n) && opaque[n];
        }

        boolean isFolded(int n) {
            return definitionOf(n) != NONE && !isOpaque(n);
        }

        int heightOf(int n) {
            return has(n) ? height[n] : 0;
        }

        int come(int parts) {
            if (came >= MOST_NAMES) return FULL;
            int n = came;
            arity[n] = parts;
            definition[n] = NONE;
            opaque[n] = false;
            came++;
            settleFrom(n);
            return n;
        }

        boolean mayStandFor(int n, int x) {
            int greaterOrSame = -1 << n;
            if ((terms.namesIn(x) & greaterOrSame) != 0) return false;
            for (int i = arityOf(n); i < MOST_PARTS; i++) {
                if (terms.timesOfParameter(x, i) != 0) return false;
            }
            return true;
        }

        /** What the NAME was DEFINED by until now. */
        int redefine(int n, int x) {
            if (!has(n)) return UNKNOWN;
            int before = definition[n];
            definition[n] = x;
            settleFrom(n);
            return before;
        }

        /** Whether that changed anything. */
        boolean cover(int n, boolean is) {
            if (!has(n) || opaque[n] == is) return false;
            opaque[n] = is;
            settleFrom(n);
            return true;
        }

        /** Definitions have only lesser NAMES: none below n can follow from n, and the lesser go first. */
        private void settleFrom(int from) {
            for (int n = from; n < came; n++) {
                if (isFolded(n)) settleFolded(n);
                else settlePlain(n);
            }
        }

        private void settlePlain(int n) {
            if (!has(n)) return;
            height[n] = 0;
            wholeFront[n] = n;
            for (int i = 0; i < MOST_PARTS; i++) {
                counted[i][n] = i < arity[n] ? 1 : 0;
            }
            counted[NAMES_COUNTED][n] = 1;
            counted[UNFOLDINGS_COUNTED][n] = 0;
        }

        private void settleFolded(int n) {
            if (!has(n)) return;
            int x = definition[n];
            height[n] = 1 + greatestHeightIn(x);
            wholeFront[n] = frontOfWhole(x);
            for (int kind = 0; kind < COUNTS; kind++) {
                counted[kind][n] = countInWhole(x, kind, 1);
            }
            counted[UNFOLDINGS_COUNTED][n] = sum(1, counted[UNFOLDINGS_COUNTED][n]);
        }

        private int greatestHeightIn(int x) {
            int within = terms.namesIn(x);
            int greatest = 0;
            for (int n = 0; n < came; n++) {
                if ((within >> n & 1) == 1) greatest = Math.max(greatest, height[n]);
            }
            return greatest;
        }

        /** Where the WHOLE of a NAME begins with one of its PARAMETERS, the PART in its place is what tells. */
        int frontOfWhole(int x) {
            int at = x;
            for (int level = 0; level < MOST_DEPTH; level++) {
                int n = terms.frontOf(at);
                if (!has(n)) return n;
                int first = wholeFront[n];
                if (first < PARAMETER) return first;
                at = terms.partOf(at, first - PARAMETER);
            }
            return NONE;
        }

        private long countInWhole(int x, int kind, int level) {
            if (kind < 0 || kind >= COUNTS || level > MOST_DEPTH) return 0;
            int n = terms.frontOf(x);
            if (!has(n)) return n == PARAMETER + kind ? 1 : 0;
            long all = kind < MOST_PARTS ? 0 : counted[kind][n];
            for (int i = 0; i < arity[n] && i < MOST_PARTS; i++) {
                long inPart = countInWhole(terms.partOf(x, i), kind, level + 1);
                all = sum(all, product(counted[i][n], inPart));
            }
            return all;
        }

        long sizeUnfolded(int x) {
            int n = terms.frontOf(x);
            if (!isFolded(n)) return 0;
            int body = definitionOf(n);
            long all = terms.sizeOf(body);
            for (int i = 0; i < MOST_PARTS; i++) {
                all += terms.timesOfParameter(body, i) * (terms.sizeOf(terms.partOf(x, i)) - 1);
            }
            return all;
        }

        long sizeOfWhole(int x) {
            long parameters = sum(countInWhole(x, 0, 1), countInWhole(x, 1, 1));
            return sum(parameters, countInWhole(x, NAMES_COUNTED, 1));
        }

        long unfoldingsOutermost(int x) {
            return countInWhole(x, UNFOLDINGS_COUNTED, 1);
        }

        private static long sum(long a, long b) {
            return Math.min(MOST_TOLD, a + b);
        }

        private static long product(long a, long b) {
            if (a == 0 || b == 0) return 0;
            return a > MOST_TOLD / b ? MOST_TOLD : a * b;
        }
    }

    /**
     * The CHECKS. Pairs under way stand on a stack of rows, not on Java's own: what UNFOLDING brings may be far
     * deeper than the TERMS that were made.
     */
    private static final class Checker {
        private static final int UNLIKE = 0, ALIKE = 1, OPEN = 2;

        /** Where a pair stands that waits for what came by UNFOLDING; else the PART that it waits for. */
        private static final int WHAT_CAME = 2;

        /** An UNFOLDING adds a pair and at most 3 to the depth; each other pair is one less deep. */
        private static final int MOST_OPEN = MOST_DEPTH + 4 * MOST_UNFOLDINGS;

        /** Each pair of held TERMS is begun once, and goes on at most three times. */
        private static final int MOST_STEPS = 4 * MOST_HELD * MOST_HELD;

        private static final int PAIRS_A_WORD = 32;
        private static final int WORDS_A_ROW = (MOST_HELD + PAIRS_A_WORD - 1) / PAIRS_A_WORD;

        private static final int TOLD = 5;

        private final Terms terms;
        private final Names names;

        /** Two bits for each pair of held TERMS: 0, or 1 more than what was judged. */
        private final long[] judgments = new long[MOST_HELD * WORDS_A_ROW];
        private final int[] openX = new int[MOST_OPEN];
        private final int[] openY = new int[MOST_OPEN];
        private final int[] waitsFor = new int[MOST_OPEN];
        private int open;
        private int unfoldings;
        private int judged;
        private int clashX;
        private int clashY;

        private final int[] told = new int[TOLD];
        private boolean hasTold;

        Checker(Terms terms, Names names) {
            this.terms = terms;
            this.names = names;
            hasTold = false;
        }

        /** What is told of the latest CHECK that was not SPENT. */
        int latest(int what) {
            if (what < 0 || what >= TOLD) return OUTSIDE;
            return hasTold ? told[what] : STATE;
        }

        /** ALIKE, UNLIKE or SPENT. */
        int run(int x, int y) {
            start();
            int verdict = meet(x, y);
            for (int step = 0; step < MOST_STEPS && open > 0 && verdict != SPENT; step++) {
                verdict = verdict == OPEN ? begin() : goOn(verdict);
            }
            terms.dropNotMade();
            if (open > 0 || verdict == SPENT) return SPENT;
            keep(verdict);
            return verdict;
        }

        private void start() {
            Arrays.fill(judgments, 0L);
            open = 0;
            unfoldings = 0;
            judged = 0;
            clashX = NONE;
            clashY = NONE;
        }

        private void keep(int verdict) {
            told[0] = unfoldings;
            told[1] = judged;
            told[2] = verdict == ALIKE ? NONE : clashX;
            told[3] = verdict == ALIKE ? NONE : clashY;
            told[4] = verdict;
            hasTold = true;
        }

        /** The verdict on a pair, or OPEN: it is now the last of those under way. */
        private int meet(int x, int y) {
            if (!terms.isHeld(x) || !terms.isHeld(y)) return SPENT;
            if (x == y) return ALIKE;
            int known = judgment(x, y);
            if (known != OPEN) return known;
            if (open >= MOST_OPEN) return SPENT;
            openX[open] = x;
            openY[open] = y;
            open++;
            judged++;
            return OPEN;
        }

        private int begin() {
            int nameX = terms.frontOf(lastX());
            int nameY = terms.frontOf(lastY());
            if (nameX == nameY) return meetParts(0);
            int heightX = names.heightOf(nameX);
            int heightY = names.heightOf(nameY);
            // Just the FOLDED NAMES have a HEIGHT above 0: one that is FOLDED alone is the greater.
            if (heightX > 0 || heightY > 0) return unfold(heightX >= heightY, heightY >= heightX);
            clashX = nameX;
            clashY = nameY;
            return close(UNLIKE);
        }

        /** The last pair under way has the verdict that it waited for. */
        private int goOn(int verdict) {
            int waited = lastWaitsFor();
            if (waited == WHAT_CAME) return close(verdict);
            int n = terms.frontOf(lastX());
            if (verdict == UNLIKE) return names.isFolded(n) ? unfold(true, true) : close(UNLIKE);
            return waited + 1 < names.arityOf(n) ? meetParts(waited + 1) : close(ALIKE);
        }

        private int meetParts(int i) {
            setLastWaitsFor(i);
            return meet(terms.partOf(lastX(), i), terms.partOf(lastY(), i));
        }

        private int unfold(boolean alsoX, boolean alsoY) {
            int more = alsoX && alsoY ? 2 : 1;
            if (unfoldings + more > MOST_UNFOLDINGS) return SPENT;
            unfoldings += more;
            setLastWaitsFor(WHAT_CAME);
            int x = alsoX ? unfolded(lastX()) : lastX();
            int y = alsoY ? unfolded(lastY()) : lastY();
            return meet(x, y);
        }

        private int unfolded(int x) {
            int body = names.definitionOf(terms.frontOf(x));
            return terms.unfolded(body, terms.partOf(x, 0), terms.partOf(x, 1));
        }

        private int close(int verdict) {
            judge(lastX(), lastY(), verdict);
            open = Math.max(0, open - 1);
            return verdict;
        }

        private boolean hasLast() {
            return open > 0 && open <= MOST_OPEN;
        }

        private int lastX() {
            return hasLast() ? openX[open - 1] : NONE;
        }

        private int lastY() {
            return hasLast() ? openY[open - 1] : NONE;
        }

        private int lastWaitsFor() {
            return hasLast() ? waitsFor[open - 1] : WHAT_CAME;
        }

        private void setLastWaitsFor(int what) {
            if (hasLast()) waitsFor[open - 1] = what;
        }

        private int judgment(int x, int y) {
            if (!terms.isHeld(x) || !terms.isHeld(y)) return OPEN;
            int bits = (int) (judgments[wordOf(x, y)] >>> shiftOf(y)) & 3;
            return bits == 0 ? OPEN : bits - 1;
        }

        private void judge(int x, int y, int verdict) {
            if (!terms.isHeld(x) || !terms.isHeld(y)) return;
            judgments[wordOf(x, y)] |= (verdict + 1L) << shiftOf(y);
        }

        private static int wordOf(int x, int y) {
            return x * WORDS_A_ROW + y / PAIRS_A_WORD;
        }

        private static int shiftOf(int y) {
            return y % PAIRS_A_WORD * 2;
        }
    }
}
