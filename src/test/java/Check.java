/** Counts the calls of a test whose answer is not the one that is due, and prints them. */
final class Check {
    private final String name;
    private int seen = 0;
    private int wrong = 0;

    Check(String name) {
        this.name = name;
    }

    void due(String what, long got, long want) {
        seen++;
        if (got != want) {
            wrong++;
            System.out.println(name + ": " + what + " answered " + got + ", due is " + want);
        }
    }

    int seen() {
        return seen;
    }

    void holds(String what, boolean is) {
        due(what, is ? 1 : 0, 1);
    }

    /** Ends the test: with exit code 1 if an answer was wrong, or if nothing was looked at. */
    void end() {
        System.out.println(name + ": " + seen + " answers, " + wrong + " of them wrong");
        if (wrong != 0 || seen == 0) {
            System.exit(1);
        }
    }
}
