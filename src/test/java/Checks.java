/** Counts answers that are not as due, and tells them. */
final class Checks {
    interface Call {
        long answer();
    }

    private int wrong = 0;
    private int done = 0;

    void due(String what, long got, long want) {
        done++;
        if (got != want) {
            wrong++;
            System.out.println(what + " answered " + got + ", due is " + want);
        }
    }

    void due(String what, boolean got, boolean want) {
        due(what, got ? 1 : 0, want ? 1 : 0);
    }

    void due(String what, String got, String want) {
        done++;
        if (!got.equals(want)) {
            wrong++;
            System.out.println(what + " is\n  " + got + "\n  due is\n  " + want);
        }
    }

    /** The call throws exactly this class. That it changes nothing is tested in the EdgesTests. */
    void dueThrow(String what, Class<? extends RuntimeException> want, Call call) {
        due(what, outcome(call), "throws " + want.getSimpleName());
    }

    static String outcome(Call call) {
        try {
            return Long.toString(call.answer());
        } catch (RuntimeException e) {
            return "throws " + e.getClass().getSimpleName();
        }
    }

    /** How many answers were looked at. */
    int done() {
        return done;
    }

    /** Ends the program with 1 if an answer was not as due. */
    void end() {
        System.out.println(wrong == 0 ? "all " + done + " answers are as due"
                : wrong + " of " + done + " answers are not as due");
        if (wrong != 0 || done == 0) {
            System.exit(1);
        }
    }
}
