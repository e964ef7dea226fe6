import java.math.BigInteger;
import java.util.ArrayList;
import java.util.HashMap;
import java.util.List;
import java.util.Map;

/**
 * The document once more, written as it is read and with the Java library: terms as objects, wholes that are
 * really built, checks by recursion. What LazyNames answers is held against it.
 */
final class Reference {
    static final int UNKNOWN = -1, OUTSIDE = -2, STATE = -3, FULL = -4, SPENT = -6, NONE = -9;
    static final long LOST = Long.MIN_VALUE;

    /** Answered where a whole has too many terms to be built here: nothing is known of what is due. */
    static final long UNSURE = Long.MIN_VALUE + 1;

    private static final BigInteger CAP = BigInteger.TEN.pow(15);
    private static final int BUDGET = 20000;

    private static final class Term {
        int parameter = NONE;
        Name name;
        final List<Term> parts = new ArrayList<>();
        int number = NONE;
        int id;

        int depth() {
            int deepest = 0;
            for (Term part : parts) deepest = Math.max(deepest, part.depth());
            return 1 + deepest;
        }

        boolean closed() {
            if (name == null) return false;
            for (Term part : parts) if (!part.closed()) return false;
            return true;
        }

        boolean fits(Name n) {
            if (name == null) return parameter < n.arity;
            if (name.number >= n.number) return false;
            for (Term part : parts) if (!part.fits(n)) return false;
            return true;
        }
    }

    private static final class Name {
        int number;
        int arity;
        Term definition;
        boolean opaque;

        boolean folded() {
            return definition != null && !opaque;
        }

        int height() {
            return folded() ? 1 + greatest(definition) : 0;
        }

        private static int greatest(Term x) {
            int greatest = x.name == null ? 0 : x.name.height();
            for (Term part : x.parts) greatest = Math.max(greatest, greatest(part));
            return greatest;
        }
    }

    private static final class Spent extends Exception {
        private static final long serialVersionUID = 1;
    }

    private static final class TooMany extends Exception {
        private static final long serialVersionUID = 1;
    }

    private final List<Name> names = new ArrayList<>();
    private final List<Term> made = new ArrayList<>();
    private final Map<String, Term> all = new HashMap<>();
    private final Map<Integer, Term> wholes = new HashMap<>();
    private final Map<Integer, BigInteger> sizes = new HashMap<>();
    private final Map<Integer, BigInteger> unfoldingsOf = new HashMap<>();
    private int built;

    private int unfoldings;
    private int clashX;
    private int clashY;
    private final Map<String, Boolean> judgments = new HashMap<>();
    private int[] latest;

    private Name nameAt(int n) {
        return n >= 0 && n < names.size() ? names.get(n) : null;
    }

    private Term termAt(int x) {
        return x >= 0 && x < made.size() ? made.get(x) : null;
    }

    private Term the(Name name, int parameter, List<Term> parts) {
        StringBuilder key = new StringBuilder(name == null ? "p" + parameter : "n" + name.number);
        for (Term part : parts) key.append(',').append(part.id);
        return all.computeIfAbsent(key.toString(), k -> {
            Term x = new Term();
            x.name = name;
            x.parameter = parameter;
            x.parts.addAll(parts);
            x.id = all.size();
            return x;
        });
    }

    private int number(Term x) {
        if (x.number != NONE) return x.number;
        if (made.size() >= 90) return FULL;
        x.number = made.size();
        made.add(x);
        return x.number;
    }

    int name(int arity) {
        if (arity < 0 || arity > 2) return OUTSIDE;
        if (names.size() >= 12) return FULL;
        Name n = new Name();
        n.number = names.size();
        n.arity = arity;
        names.add(n);
        return n.number;
    }

    int parameter(int i) {
        if (i != 0 && i != 1) return OUTSIDE;
        return number(the(null, i, List.of()));
    }

    int term(int n, int a, int b) {
        Name name = nameAt(n);
        if (name == null) return UNKNOWN;
        int[] given = {a, b};
        List<Term> parts = new ArrayList<>();
        for (int i = 0; i < name.arity; i++) {
            Term part = termAt(given[i]);
            if (part == null) return UNKNOWN;
            parts.add(part);
        }
        for (int i = name.arity; i < 2; i++) if (given[i] != NONE) return OUTSIDE;
        for (Term part : parts) if (part.depth() >= 4) return STATE;
        return number(the(name, NONE, parts));
    }

    int define(int n, int x) {
        Name name = nameAt(n);
        Term term = termAt(x);
        if (name == null || (x != NONE && term == null)) return UNKNOWN;
        if (term != null && !term.fits(name)) return STATE;
        int before = name.definition == null ? NONE : name.definition.number;
        name.definition = term;
        forget();
        return before;
    }

    int opaque(int n, boolean is) {
        Name name = nameAt(n);
        if (name == null) return UNKNOWN;
        boolean changed = name.opaque != is;
        name.opaque = is;
        forget();
        return changed ? 1 : 0;
    }

    private void forget() {
        wholes.clear();
        sizes.clear();
        unfoldingsOf.clear();
    }

    int ofName(int n, int what) {
        Name name = nameAt(n);
        if (name == null) return UNKNOWN;
        if (what == 0) return name.arity;
        if (what == 1) return name.definition == null ? NONE : name.definition.number;
        if (what == 2) return name.opaque ? 1 : 0;
        if (what == 3) return name.height();
        return OUTSIDE;
    }

    int ofTerm(int x, int what) {
        Term term = termAt(x);
        if (term == null) return UNKNOWN;
        if (what == 0) return term.name == null ? NONE : term.name.number;
        if (what == 1 || what == 2) return term.parts.size() < what ? NONE : term.parts.get(what - 1).number;
        if (what == 3) return term.parameter;
        if (what == 4) return term.closed() ? 1 : 0;
        if (what == 5) return term.depth();
        return OUTSIDE;
    }

    long size(int x, int what) {
        Term term = termAt(x);
        if (term == null || what < 0 || what > 3) return LOST;
        built = 0;
        try {
            if (what == 0) return told(size(term));
            if (what == 1) return folded(term) ? told(size(unfold(term))) : 0;
            if (what == 2) return told(size(whole(term)));
            return told(outermost(term));
        } catch (TooMany e) {
            return UNSURE;
        }
    }

    private static long told(BigInteger number) {
        return number.min(CAP).longValueExact();
    }

    private static boolean folded(Term x) {
        return x.name != null && x.name.folded();
    }

    private BigInteger size(Term x) {
        BigInteger known = sizes.get(x.id);
        if (known != null) return known;
        BigInteger size = BigInteger.ONE;
        for (Term part : x.parts) size = size.add(size(part));
        sizes.put(x.id, size);
        return size;
    }

    private Term unfold(Term x) {
        return replaced(x.name.definition, x.parts);
    }

    private Term replaced(Term body, List<Term> given) {
        if (body.name == null) return given.get(body.parameter);
        List<Term> parts = new ArrayList<>();
        for (Term part : body.parts) parts.add(replaced(part, given));
        return the(body.name, NONE, parts);
    }

    private void spend() throws TooMany {
        if (++built > BUDGET) throw new TooMany();
    }

    private Term whole(Term x) throws TooMany {
        Term known = wholes.get(x.id);
        if (known != null) return known;
        spend();
        Term whole;
        if (folded(x)) {
            whole = whole(unfold(x));
        } else {
            List<Term> parts = new ArrayList<>();
            for (Term part : x.parts) parts.add(whole(part));
            whole = the(x.name, x.parameter, parts);
        }
        wholes.put(x.id, whole);
        return whole;
    }

    private BigInteger outermost(Term x) throws TooMany {
        BigInteger known = unfoldingsOf.get(x.id);
        if (known != null) return known;
        spend();
        BigInteger many = BigInteger.ZERO;
        if (folded(x)) {
            many = outermost(unfold(x)).add(BigInteger.ONE);
        } else {
            for (Term part : x.parts) many = many.add(outermost(part));
        }
        unfoldingsOf.put(x.id, many);
        return many;
    }

    int front(int x) {
        Term term = termAt(x);
        if (term == null) return UNKNOWN;
        while (folded(term)) term = unfold(term);
        return term.name == null ? 100 + term.parameter : term.name.number;
    }

    int check(int x, int y) {
        Term one = termAt(x);
        Term other = termAt(y);
        if (one == null || other == null) return UNKNOWN;
        if (!one.closed() || !other.closed()) return STATE;
        unfoldings = 0;
        clashX = NONE;
        clashY = NONE;
        judgments.clear();
        try {
            boolean alike = alike(one, other);
            int answer = alike ? 1 : 0;
            latest = new int[] {unfoldings, judgments.size(), alike ? NONE : clashX, alike ? NONE : clashY, answer};
            return answer;
        } catch (Spent e) {
            return SPENT;
        }
    }

    private boolean alike(Term x, Term y) throws Spent {
        if (x == y) return true;
        String pair = x.id + " " + y.id;
        Boolean known = judgments.get(pair);
        if (known != null) return known;
        boolean alike = judge(x, y);
        judgments.put(pair, alike);
        return alike;
    }

    private boolean judge(Term x, Term y) throws Spent {
        if (x.name == y.name) {
            boolean all = true;
            for (int i = 0; i < x.parts.size() && all; i++) all = alike(x.parts.get(i), y.parts.get(i));
            if (all) return true;
            if (!x.name.folded()) return false;
            return unfoldBoth(x, y);
        }
        if (!x.name.folded() && !y.name.folded()) {
            clashX = x.name.number;
            clashY = y.name.number;
            return false;
        }
        if (!y.name.folded()) return unfoldX(x, y);
        if (!x.name.folded()) return unfoldY(x, y);
        if (x.name.height() > y.name.height()) return unfoldX(x, y);
        if (x.name.height() < y.name.height()) return unfoldY(x, y);
        return unfoldBoth(x, y);
    }

    private boolean unfoldX(Term x, Term y) throws Spent {
        count(1);
        return alike(unfold(x), y);
    }

    private boolean unfoldY(Term x, Term y) throws Spent {
        count(1);
        return alike(x, unfold(y));
    }

    private boolean unfoldBoth(Term x, Term y) throws Spent {
        count(2);
        return alike(unfold(x), unfold(y));
    }

    private void count(int more) throws Spent {
        unfoldings += more;
        if (unfoldings > 40) throw new Spent();
    }

    int checked(int what) {
        if (what < 0 || what > 4) return OUTSIDE;
        return latest == null ? STATE : latest[what];
    }

    int many(int what) {
        if (what == 0) return names.size();
        if (what == 1) return made.size();
        if (what == 2) return (int) names.stream().filter(n -> n.definition != null).count();
        if (what == 3) return (int) names.stream().filter(Name::folded).count();
        if (what == 4) return (int) made.stream().filter(Term::closed).count();
        return OUTSIDE;
    }
}
