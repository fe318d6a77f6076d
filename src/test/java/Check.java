/** Compares answers with those that are due, and tells the wrong ones. */
final class Check {
    /** A call whose answer, or whose exception, is looked at. */
    interface Call {
        Object answer();
    }

    private static final int MOST_TOLD = 20;

    private final String name;
    private int right;
    private int wrong;

    Check(String name) {
        this.name = name;
    }

    void that(String what, boolean isRight) {
        due(what, isRight, true);
    }

    void due(String what, Object got, Object due) {
        if (got.equals(due)) {
            right++;
            return;
        }
        wrong++;
        if (wrong <= MOST_TOLD) {
            System.out.println(name + ": " + what + " answered " + got + ", due is " + due);
        }
    }

    /** The answer of a call as a text; the plain name of the exception's class if it throws one. */
    static String answerOf(Call call) {
        try {
            return String.valueOf(call.answer());
        } catch (RuntimeException e) {
            return e.getClass().getSimpleName();
        }
    }

    boolean isRight() {
        return wrong == 0;
    }

    void end() {
        System.out.println(name + ": " + right + " right, " + wrong + " wrong");
        if (wrong != 0) {
            System.exit(1);
        }
    }
}
