/** Counts and prints what is not as it is due; used by every test. */
final class Checks {
    interface Call {
        void run();
    }

    private final String test;
    private String words = "";
    private int made;
    private int wrong;

    Checks(String test) {
        this.test = test;
    }

    /** What is found wrong from now on is told with these words of the document. */
    void by(String documentWords) {
        words = " \"" + documentWords + "\":";
    }

    int made() {
        return made;
    }

    void due(String what, long got, long want) {
        due(what, Long.toString(got), Long.toString(want));
    }

    void due(String what, boolean got, boolean want) {
        due(what, got ? 1 : 0, want ? 1 : 0);
    }

    void due(String what, String got, String want) {
        made++;
        if (!got.equals(want)) {
            wrong++;
            System.out.println(test + ":" + words + " " + what + " answered " + got + ", due is " + want);
        }
    }

    void outOfBounds(String what, Call call) {
        due(what, thrownBy(call), "IndexOutOfBoundsException");
    }

    void badArgument(String what, Call call) {
        due(what, thrownBy(call), "IllegalArgumentException");
    }

    void badState(String what, Call call) {
        due(what, thrownBy(call), "IllegalStateException");
    }

    static String thrownBy(Call call) {
        try {
            call.run();
            return "nothing";
        } catch (RuntimeException e) {
            return e.getClass().getSimpleName();
        }
    }

    /** Ends the program: with exit code 1 if an answer was wrong, or if there was no check at all. */
    void end() {
        System.out.println(test + ": " + made + " checks, " + wrong + " wrong");
        System.exit(wrong == 0 && made > 0 ? 0 : 1);
    }
}
