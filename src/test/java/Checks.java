/** Counts answers that are as due, and prints those that are not. */
final class Checks {
    private static final int MOST_PRINTED = 40;

    private final String name;
    private int right;
    private int wrong;

    Checks(String name) {
        this.name = name;
    }

    void due(String call, long got, long want) {
        that(got == want, call + " answered " + got + ", due is " + want);
    }

    void that(boolean holds, String otherwise) {
        if (holds) {
            right++;
            return;
        }
        wrong++;
        if (wrong <= MOST_PRINTED) {
            System.out.println("  " + otherwise);
        }
    }

    int wrong() {
        return wrong;
    }

    /** Ends the program, with exit code 1 if anything was wrong, or nothing was looked at. */
    void end() {
        System.out.println(name + ": " + right + " right, " + wrong + " wrong");
        System.exit(wrong == 0 && right > 0 ? 0 : 1);
    }
}
