/**
 * Every call with every argument out of a list of boundaries, in each scene, held against the Reference; what the
 * calls leave behind is looked at too. "No call may ever throw or fail to end, for any arguments in any state."
 */
public final class EveryArgumentTest {
    private static final int LEAST = Integer.MIN_VALUE, GREATEST = Integer.MAX_VALUE;

    /** Next to all that bounds an argument: ARITIES, `what`s, NAMES, TERMS, refusals, and the ends of the int. */
    private static final int[] EDGES = {LEAST, LEAST + 1, -65536, -256, -101, -100, -91, -90, -89, -13, -12, -11, -10,
        -9, -8, -7, -6, -5, -4, -3, -2, -1, 0, 1, 2, 3, 4, 5, 6, 7, 8, 9, 10, 11, 12, 13, 31, 32, 33, 39, 40, 41, 63,
        64, 65, 88, 89, 90, 91, 99, 100, 101, 102, 255, 256, 369, 370, 371, 511, 512, 65536, 1 << 30, GREATEST - 1,
        GREATEST};

    /** The calls that are made of one object ahead of a look at it, which takes less than 200. */
    private static final int CALLS_AHEAD = 300;

    private static final Due DUE = new Due();

    private interface Asking {
        void ask(Used x, int a, int b, int c);
    }

    private final Scene scene;
    private Used x;
    private int slice;

    private EveryArgumentTest(Scene scene) {
        this.scene = scene;
        x = scene.made();
    }

    public static void main(String[] args) {
        Scene[] scenes = {new Scene(DUE, "nothing", Scenes::nothing), new Scene(DUE, "few", Scenes::few),
            new Scene(DUE, "all names", Scenes::allNames), new Scene(DUE, "all terms", Scenes::allTerms),
            new Scene(DUE, "a parameter last", Scenes::allTermsAndParameter), new Scene(DUE, "chains", Scenes::chains)};
        for (Scene scene : scenes) new EveryArgumentTest(scene).askAll();
        DUE.end();
    }

    private void askAll() {
        one((x, a, b, c) -> x.name(a));
        one((x, a, b, c) -> x.parameter(a));
        one((x, a, b, c) -> x.opaque(a, true));
        one((x, a, b, c) -> x.opaque(a, false));
        one((x, a, b, c) -> x.front(a));
        one((x, a, b, c) -> x.checked(a));
        one((x, a, b, c) -> x.many(a));
        two((x, a, b, c) -> x.define(a, b));
        two((x, a, b, c) -> x.ofName(a, b));
        two((x, a, b, c) -> x.ofTerm(a, b));
        two((x, a, b, c) -> x.size(a, b));
        two((x, a, b, c) -> x.check(a, b));
        three((x, a, b, c) -> x.term(a, b, c));
    }

    private void one(Asking asking) {
        for (int a : EDGES) ask(asking, a, 0, 0);
        lookAndMakeAnew();
    }

    private void two(Asking asking) {
        for (int a : EDGES) {
            for (int b : EDGES) ask(asking, a, b, 0);
        }
        lookAndMakeAnew();
    }

    private void three(Asking asking) {
        for (int a : EDGES) {
            for (int b : EDGES) {
                for (int c : EDGES) ask(asking, a, b, c);
            }
        }
        lookAndMakeAnew();
    }

    private void ask(Asking asking, int a, int b, int c) {
        asking.ask(x, a, b, c);
        if (x.calls() >= CALLS_AHEAD) lookAndMakeAnew();
    }

    private void lookAndMakeAnew() {
        long[] seen = Scene.look(x, slice);
        DUE.due("nothing was seen", seen.length > 0);
        slice = (slice + 1) % Scene.SLICES;
        x = scene.made();
    }
}
