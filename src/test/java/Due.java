/** Counts and prints the answers that are not due. */
final class Due {
    private final String test;
    private int wrong;
    private int asked;

    Due(String test) {
        this.test = test;
    }

    void is(String call, long got, long want) {
        asked++;
        if (got != want) {
            wrong++;
            System.out.println(test + ": " + call + " answered " + got + ", due is " + want);
        }
    }

    void holds(String what, boolean so) {
        is(what, so ? 1 : 0, 1);
    }

    /** Ends the test: exit code 1 if an answer was not due, or if nothing was asked. */
    void end() {
        System.out.println(test + ": " + asked + " answers, " + wrong + " not due");
        if (wrong != 0 || asked == 0) {
            System.exit(1);
        }
    }
}
