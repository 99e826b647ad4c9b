/** Counts what a test finds; a test ends with finish(). */
final class Checks {
    interface Call {
        Object make();
    }

    private final String name;
    private final boolean tells;
    private int done = 0;
    private int wrong = 0;

    Checks(String name) {
        this(name, true);
    }

    /** Tells, if it is told to, each wrong answer. */
    Checks(String name, boolean tells) {
        this.name = name;
        this.tells = tells;
    }

    void equal(String what, Object got, Object want) {
        done++;
        if (!want.equals(got)) {
            wrong++;
            if (tells) {
                System.out.println(name + ": " + what + " answered " + got + ", due is " + want);
            }
        }
    }

    /** The call answers what is due, be it a value or the class of an exception. */
    void answer(String what, Call call, Object want) {
        equal(what, answerOf(call), want);
    }

    /** The value, or the class of what was thrown; an exception of the machine or the library is never due. */
    static Object answerOf(Call call) {
        try {
            return call.make();
        } catch (RuntimeException e) {
            StackTraceElement[] trace = e.getStackTrace();
            String thrower = trace.length == 0 ? "the machine" : trace[0].getClassName();
            return thrower.equals("Hopyard") || thrower.equals("Model") ? e.getClass() : e + ", thrown by " + thrower;
        }
    }

    int done() {
        return done;
    }

    int wrongs() {
        return wrong;
    }

    void finish() {
        System.out.println(name + ": " + done + " checks, " + wrong + " wrong");
        if (wrong != 0 || done == 0) {
            System.exit(1);
        }
    }
}
