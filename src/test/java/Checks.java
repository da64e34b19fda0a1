/** What the project's tests share: a call's outcome as a text, and the tally of wrong ones. */
final class Checks {
    interface Call {
        Object run();
    }

    static final String INDEX = "IndexOutOfBoundsException";
    static final String STATE = "IllegalStateException";
    static final String ARGUMENT = "IllegalArgumentException";

    private final String title;
    private int done = 0;
    private int wrong = 0;

    Checks(String title) {
        this.title = title;
    }

    /** The call's answer, or the plain name of exactly the class that it throws. */
    static String outcome(Call call) {
        try {
            return String.valueOf(call.run());
        } catch (RuntimeException thrown) {
            return thrown.getClass().getSimpleName();
        }
    }

    void due(String what, Object want, Call call) {
        equal(what, String.valueOf(want), outcome(call));
    }

    void equal(String what, String want, String got) {
        done++;
        if (!got.equals(want)) {
            wrong++;
            if (wrong <= 20) {
                System.out.println(what + " answered " + got + ", due is " + want);
            }
        }
    }

    boolean failed() {
        return wrong > 0;
    }

    void end() {
        System.out.println(title + ": " + done + " checks, " + wrong + " wrong");
        if (wrong > 0) {
            System.exit(1);
        }
    }
}
