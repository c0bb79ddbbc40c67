/** Counts answers that are not as due, and tells them. */
final class Checks {
    interface Call {
        long answer();
    }

    private int wrong = 0;
    private int done = 0;

    void due(String what, long got, long want) {
        done++;
        if (got != want) {
            wrong++;
            System.out.println(what + " answered " + got + ", due is " + want);
        }
    }

    void due(String what, boolean got, boolean want) {
        due(what, got ? 1 : 0, want ? 1 : 0);
    }

    void due(String what, String got, String want) {
        done++;
        if (!got.equals(want)) {
            wrong++;
            System.out.println(what + " is\n  " + got + "\n  due is\n  " + want);
        }
    }

    /** The call throws exactly this class, and leaves the object as it was. */
    void dueThrow(String what, ChangeSync x, Class<? extends RuntimeException> want, Call call) {
        String before = state(x);
        due(what, outcome(call), "throws " + want.getSimpleName());
        due(what + " changes nothing", state(x), before);
    }

    /** The call answers false, and leaves the object as it was. */
    void dueFalse(String what, ChangeSync x, Call call) {
        String before = state(x);
        due(what, call.answer(), 0);
        due(what + " changes nothing", state(x), before);
    }

    static String outcome(Call call) {
        try {
            return Long.toString(call.answer());
        } catch (RuntimeException e) {
            return "throws " + e.getClass().getSimpleName();
        }
    }

    /** All that can be seen of an object without changing it; UP and DOWN can't. */
    static String state(ChangeSync x) {
        StringBuilder text = new StringBuilder();
        for (int which = 0; which <= 8; which++) {
            text.append(x.look(which)).append(' ');
        }
        for (int replica = 0; replica < x.look(0); replica++) {
            text.append("| clock ").append(Long.toHexString(x.clock(replica)));
            text.append(" lacks ").append(x.lacks(replica)).append(" log");
            for (int k = 0; x.log(replica, k) != ChangeSync.NONE; k++) {
                text.append(' ').append(x.log(replica, k));
            }
            text.append(" weights");
            for (int seq = 1; x.weight(replica, seq) != ChangeSync.NONE; seq++) {
                text.append(' ').append(x.weight(replica, seq));
            }
        }
        for (int i = 0; i < x.look(2); i++) {
            text.append("| message");
            for (int w = 0; w <= 4; w++) {
                text.append(' ').append(x.message(i, w));
            }
            text.append(" told ").append(Long.toHexString(x.told(i))).append(" inside");
            for (int k = 0; x.inside(i, k) != ChangeSync.NONE; k++) {
                text.append(' ').append(x.inside(i, k));
            }
        }
        return text.toString();
    }

    /** Ends the program with 1 if an answer was not as due. */
    void end() {
        System.out.println(wrong == 0 ? "all " + done + " answers are as due"
                : wrong + " of " + done + " answers are not as due");
        if (wrong != 0 || done == 0) {
            System.exit(1);
        }
    }
}
