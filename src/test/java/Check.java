/** Counts the answers that a test looks at, and prints those that are not due. */
final class Check {
    private final String test;
    private int looked = 0;
    private int wrong = 0;

    Check(String test) {
        this.test = test;
    }

    void due(String call, long got, long want) {
        looked++;
        if (got != want) {
            wrong++;
            System.out.println(test + ": " + call + " answered " + got + ", due is " + want);
        }
    }

    void due(String fact, boolean holds) {
        looked++;
        if (!holds) {
            wrong++;
            System.out.println(test + ": not so: " + fact);
        }
    }

    /** A test that looked at nothing fails too: it would pass whatever the program does. */
    void end() {
        System.out.println(test + ": " + looked + " looked at, " + wrong + " wrong");
        if (wrong != 0 || looked == 0) {
            System.exit(1);
        }
    }
}
