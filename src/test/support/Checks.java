/** What the project's tests share: each call is told with its answer and the one that is due. */
final class Checks {
    /** A call whose answer, or whose exception, is looked at. */
    interface Call {
        Object answer();
    }

    private final String test;
    private int looked = 0;
    private int wrong = 0;

    Checks(String test) {
        this.test = test;
    }

    /** The answer as a text, or the name of the exception: whichever it is, so that a wrong one is told too. */
    static String told(Call call) {
        try {
            return String.valueOf(call.answer());
        } catch (RuntimeException e) {
            return e.getClass().getSimpleName();
        }
    }

    void due(String what, String got, String want) {
        looked++;
        if (!got.equals(want)) {
            wrong++;
            System.out.println(what + " answered " + got + ", due is " + want);
        }
    }

    void due(String what, long got, long want) {
        due(what, String.valueOf(got), String.valueOf(want));
    }

    void due(String what, boolean got, boolean want) {
        due(what, String.valueOf(got), String.valueOf(want));
    }

    int looked() {
        return looked;
    }

    /** Ends the test: with exit code 1 if an answer was wrong, or if nothing was looked at. */
    void close() {
        System.out.println(test + ": " + looked + " answers looked at, " + wrong + " wrong");
        if (wrong != 0 || looked == 0) {
            System.exit(1);
        }
    }
}
