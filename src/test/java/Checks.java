/** Counts and prints the answers that are not the ones that are due. */
final class Checks {
    private static final int MOST_PRINTED = 40;

    private String about = "";
    private int asked;
    private int wrong;

    /** What the next answers are about: it is printed with each one that is wrong. */
    void about(String text) {
        about = text;
    }

    void due(String call, int got, int want) {
        asked++;
        if (got == want) {
            return;
        }
        wrong++;
        if (wrong <= MOST_PRINTED) {
            System.out.println(about + ": " + call + " answered " + got + ", due is " + want);
        }
    }

    void due(String call, boolean got, boolean want) {
        due(call, got ? 1 : 0, want ? 1 : 0);
    }

    void due(String call, String got, String want) {
        due(call + " (" + got + ", due is " + want + ")", got.equals(want), true);
    }

    int wrong() {
        return wrong;
    }

    /** Ends the test's process, with 1 if an answer was wrong. */
    void end() {
        System.out.println(asked + " answers, " + wrong + " not as due");
        if (wrong != 0) {
            System.exit(1);
        }
    }
}
