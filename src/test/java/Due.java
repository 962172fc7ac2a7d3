/** Counts the answers that are not as due, and ends the program by them. */
final class Due {
    /** More than these only hide each other. */
    private static final int MOST_TOLD = 40;

    private int asked;
    private int wrong;
    private String test = "";

    /** What is wrong from here on is told with the test's name. */
    void begin(String name) {
        test = name + ": ";
    }

    void is(String what, long got, long want) {
        asked++;
        if (got != want) {
            wrong++;
        }
        if (got != want && wrong <= MOST_TOLD) {
            System.out.println(test + what + " answered " + got + ", due is " + want);
        }
    }

    void yes(String what, boolean got) {
        is(what, got ? 1 : 0, 1);
    }

    void no(String what, boolean got) {
        is(what, got ? 1 : 0, 0);
    }

    void fails(String what) {
        yes(what, false);
    }

    void end() {
        System.out.println(asked + " answers, " + wrong + " not as due");
        if (wrong != 0) {
            System.exit(1);
        }
    }
}
