import java.util.Random;

/** Long runs of calls, drawn from fixed seeds, on LazyNames and on the Reference: every answer is the same. */
public final class RandomRunsTest {
    private static final int RUNS = 6000;
    private static final int CALLS = 512;
    private static final int NONE = -9;
    private static final int[] STRANGE = {-1, -2, -9, -100, 3, 4, 5, 6, 12, 90, 100, 101,
        Integer.MIN_VALUE, Integer.MAX_VALUE};

    private final Due due;
    private final Random random;
    private final LazyNames own = new LazyNames();
    private final Reference other = new Reference();
    private final int undefined;
    private final int strange;
    private boolean tall;
    private int calls;
    private final StringBuilder log = new StringBuilder();

    private static int unsure, alike, unlike, spent, mostUnfoldings, mostJudged;

    private RandomRunsTest(Due due, long seed) {
        this.due = due;
        random = new Random(seed);
        undefined = 1 + random.nextInt(4);
        strange = random.nextInt(4) == 0 ? 12 : 60;
    }

    public static void main(String[] args) throws InterruptedException {
        Due due = new Due();
        // The Reference recurs as deep as wholes are.
        Thread runs = new Thread(null, () -> {
            for (int seed = 0; seed < RUNS && due.wrong() == 0; seed++) new RandomRunsTest(due, seed).run();
        }, "runs", 1L << 29);
        runs.setUncaughtExceptionHandler((thread, thrown) -> {
            thrown.printStackTrace();
            due.due("a call threw " + thrown, false);
        });
        runs.start();
        runs.join();
        System.out.println("checks of two terms: " + alike + " alike, " + unlike + " unlike, " + spent
            + " spent; at most " + mostUnfoldings + " unfoldings, " + mostJudged + " pairs; unsure: " + unsure);
        due.due("too little was met in these runs", alike > 1000 && unlike > 1000 && spent > 500
            && mostUnfoldings == 40 && unsure < alike);
        due.end();
    }

    private void run() {
        boolean grown = random.nextInt(5) != 0;
        if (grown) grow();
        while (calls < CALLS && due.wrong() == 0) {
            int kind = random.nextInt(100);
            if (kind < 1) callName();
            else if (kind < 3) callParameter();
            else if (kind < (grown ? 15 : 40)) callTerm();
            else if (kind < (grown ? 16 : 48)) callDefine();
            else if (kind < 50 && random.nextInt(4) == 0) callOpaque();
            else if (kind < 55) callOfName();
            else if (kind < 59) callOfTerm();
            else if (kind < 68) callSize();
            else if (kind < 72) callFront();
            else if (kind < 98) callCheck();
            else callMany();
        }
    }

    /** Names one after another, each DEFINED by a TERM of those ahead of it, and closed terms of all of them. */
    private void grow() {
        int all = 2 + random.nextInt(11);
        tall = random.nextInt(2) == 0;
        same("name(0)", own.name(0), other.name(0));
        if (random.nextBoolean()) same("term(0, -9, -9)", own.term(0, NONE, NONE), other.term(0, NONE, NONE));
        for (int i = 0; i < 2; i++) same("parameter(" + i + ")", own.parameter(i), other.parameter(i));
        for (int n = 1; n < all; n++) {
            int arity = n < undefined ? n % 3 : tall ? Math.min(2, random.nextInt(5)) : random.nextInt(3);
            same("name(" + arity + ")", own.name(arity), other.name(arity));
            if (n < undefined) continue;
            int x = grownTerm(n, arity, 2 + random.nextInt(3));
            if (x >= 0) same("define(" + n + ", " + x + ")", own.define(n, x), other.define(n, x));
        }
        for (int i = 0; i < 20; i++) grownTerm(all, 0, 2 + random.nextInt(3));
    }

    /** The number of a TERM of NAMES below n and PARAMETERS below arity; it may be a refusal. */
    private int grownTerm(int n, int arity, int depth) {
        if (arity > 0 && (depth <= 1 || random.nextInt(16) == 0)) {
            int i = random.nextInt(arity);
            return other.parameter(i);
        }
        // With tall names the greater are drawn more often, so that definitions lead far.
        int m = tall ? n - 1 - random.nextInt(Math.min(n, 3)) : random.nextInt(n);
        for (int i = 0; i < 40 && depth <= 1 && other.ofName(m, 0) > 0; i++) m = random.nextInt(n);
        int parts = other.ofName(m, 0);
        if (depth <= 1 && parts > 0) return NONE;
        int a = parts > 0 ? grownTerm(n, arity, depth - 1) : NONE;
        int b = parts > 1 ? grownTerm(n, arity, depth - 1) : NONE;
        int x = other.term(m, a, b);
        same("term(" + m + ", " + a + ", " + b + ")", own.term(m, a, b), x);
        return x;
    }

    private void same(String call, long got, long want) {
        calls++;
        log.append(call).append(" -> ").append(got).append('\n');
        due.due(call, got, want);
        if (got != want) System.out.println("after:\n" + log);
    }

    private int any(int below) {
        if (random.nextInt(strange) == 0) return STRANGE[random.nextInt(STRANGE.length)];
        return random.nextInt(below + 1);
    }

    private int someName() {
        return random.nextInt(strange) == 0 ? any(12) : random.nextInt(Math.max(1, other.many(0)));
    }

    private int someTerm() {
        return random.nextInt(strange) == 0 ? any(90) : random.nextInt(Math.max(1, other.many(1)));
    }

    private int closedTerm() {
        int x = someTerm();
        for (int i = 0; i < 20 && other.ofTerm(x, 4) == 0; i++) x = someTerm();
        return x;
    }

    private void callName() {
        int arity = other.many(0) == 0 && random.nextBoolean() ? 0 : any(2);
        same("name(" + arity + ")", own.name(arity), other.name(arity));
    }

    private void callParameter() {
        int i = any(1);
        same("parameter(" + i + ")", own.parameter(i), other.parameter(i));
    }

    private void callTerm() {
        int n = someName();
        int arity = other.ofName(n, 0);
        int a = arity > 0 ? someTerm() : NONE;
        int b = arity > 1 ? someTerm() : NONE;
        if (random.nextInt(strange) == 0) b = any(90);
        same("term(" + n + ", " + a + ", " + b + ")", own.term(n, a, b), other.term(n, a, b));
    }

    private void callDefine() {
        int n = someName();
        if (n < undefined) n = someName();
        int x = random.nextInt(12) == 0 ? NONE : someTerm();
        same("define(" + n + ", " + x + ")", own.define(n, x), other.define(n, x));
    }

    private void callOpaque() {
        int n = someName();
        boolean is = random.nextInt(3) == 0;
        same("opaque(" + n + ", " + is + ")", own.opaque(n, is), other.opaque(n, is));
    }

    private void callOfName() {
        int n = someName();
        int what = any(3);
        same("ofName(" + n + ", " + what + ")", own.ofName(n, what), other.ofName(n, what));
    }

    private void callOfTerm() {
        int x = someTerm();
        int what = any(5);
        same("ofTerm(" + x + ", " + what + ")", own.ofTerm(x, what), other.ofTerm(x, what));
    }

    private void callSize() {
        int x = someTerm();
        int what = any(3);
        long want = other.size(x, what);
        long got = own.size(x, what);
        if (want == Reference.UNSURE) unsure++;
        else same("size(" + x + ", " + what + ")", got, want);
    }

    private void callFront() {
        int x = someTerm();
        same("front(" + x + ")", own.front(x), other.front(x));
    }

    private void callCheck() {
        int x = closedTerm();
        int y = closedTerm();
        int want = other.check(x, y);
        same("check(" + x + ", " + y + ")", own.check(x, y), want);
        for (int what = -1; what <= 5; what++) {
            same("checked(" + what + ")", own.checked(what), other.checked(what));
        }
        count(x, y, want);
    }

    private void count(int x, int y, int answer) {
        if (answer == Reference.SPENT) spent++;
        if (x == y || answer < 0) return;
        if (answer == 1) alike++;
        else unlike++;
        mostUnfoldings = Math.max(mostUnfoldings, other.checked(0));
        mostJudged = Math.max(mostJudged, other.checked(1));
    }

    private void callMany() {
        int what = any(4);
        same("many(" + what + ")", own.many(what), other.many(what));
    }
}
