/** Counts answers, and prints those that are not as due. */
final class Check {
    private final String title;
    private int right;
    private int wrong;

    Check(String title) {
        this.title = title;
    }

    void due(String what, long got, long want) {
        if (got == want) {
            right++;
            return;
        }
        wrong++;
        if (wrong <= 40) {
            System.out.println(title + ": " + what + " answered " + got + ", due is " + want);
        }
    }

    void same(String what, String got, String want) {
        if (!got.equals(want)) {
            System.out.println(title + ": " + what + " is <" + got + ">, due is <" + want + ">");
        }
        holds(what, got.equals(want));
    }

    void holds(String what, boolean so) {
        due(what, so ? 1 : 0, 1);
    }

    int wrong() {
        return wrong;
    }

    /** Says how it went, and ends with exit code 1 if an answer was wrong. */
    void close() {
        System.out.println(title + ": " + right + " answers as due, " + wrong + " not");
        if (wrong != 0 || right == 0) {
            System.exit(1);
        }
    }
}
