/** Counts and prints the answers that are not the ones that are due. */
final class Checks {
    private static final int MOST_PRINTED = 40;

    private String about = "";
    private int asked;
    private int wrong;

    /** What the next answers are about: it is printed with each one that is wrong. */
    void about(String text) {
        about = text;
    }

    /**
     * The same, with the words of the document that they rest on: ".." stands for words that are
     * left out, and what stands in round brackets at the end may be the test's own.
     */
    void sentence(String where, String words) {
        about(where + ", \"" + words + "\"");
    }

    void due(String call, int got, int want) {
        asked++;
        if (got == want) {
            return;
        }
        wrong++;
        if (wrong <= MOST_PRINTED) {
            System.out.println(about + ": " + call + " answered " + got + ", due is " + want);
        }
    }

    void due(String call, boolean got, boolean want) {
        due(call, got ? 1 : 0, want ? 1 : 0);
    }

    void due(String call, String got, String want) {
        if (got.equals(want)) {
            due(call, true, true);
            return;
        }
        int from = Math.max(0, sharedStart(got, want) - 20);
        due(call + " (" + some(got, from) + ", due is " + some(want, from) + ")", false, true);
    }

    private static int sharedStart(String one, String other) {
        int i = 0;
        while (i < one.length() && i < other.length() && one.charAt(i) == other.charAt(i)) {
            i++;
        }
        return i;
    }

    private static String some(String text, int from) {
        return text.substring(from, Math.min(text.length(), from + 60));
    }

    int wrong() {
        return wrong;
    }

    /** Ends the test's process, with 1 if an answer was wrong. */
    void end() {
        System.out.println(asked + " answers, " + wrong + " not as due");
        if (wrong != 0) {
            System.exit(1);
        }
    }
}
