/** Counts and prints the answers that are not as due. */
final class Due {
    private int asked;
    private int wrong;

    void due(String call, long got, long want) {
        asked++;
        if (got == want) return;
        wrong++;
        if (wrong <= 50) System.out.println(call + " answered " + got + ", due is " + want);
    }

    void due(String what, boolean holds) {
        asked++;
        if (holds) return;
        wrong++;
        if (wrong <= 50) System.out.println(what);
    }

    int wrong() {
        return wrong;
    }

    void end() {
        System.out.println(asked + " answers, " + wrong + " not as due");
        if (wrong != 0 || asked == 0) System.exit(1);
    }
}
