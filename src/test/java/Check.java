/** Counts the answers that a test asks for and tells those that are not as due. */
final class Check {
    private final String test;
    private int right = 0;
    private int wrong = 0;

    Check(String test) {
        this.test = test;
    }

    void due(String what, long got, long want) {
        that(what + " answered " + got + ", due is " + want, got == want);
    }

    void dueNumber(String what, double got, double want) {
        that(what + " answered " + got + ", due is " + want, Double.compare(got, want) == 0);
    }

    void dueText(String what, String got, String want) {
        that(what + " answered \"" + got + "\", due is \"" + want + "\"", got.equals(want));
    }

    void that(String what, boolean holds) {
        if (holds) {
            right++;
        } else {
            wrong++;
            System.out.println(test + ": " + what);
        }
    }

    int asked() {
        return right + wrong;
    }

    /** Counts what another check found, too. */
    void add(Check other) {
        right += other.right;
        wrong += other.wrong;
    }

    /** Ends the test: with the exit code 1 if an answer was wrong or none was asked for. */
    void end() {
        System.out.println(test + ": " + right + " right, " + wrong + " wrong");
        if (wrong > 0 || right == 0) {
            System.exit(1);
        }
    }
}
