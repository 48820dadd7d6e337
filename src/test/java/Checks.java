/** Counts what was checked and tells what was not as due. */
final class Checks {
    interface Call {
        Object answer();
    }

    private int made = 0;
    private int wrong = 0;

    void due(String what, Object want, Object got) {
        made++;
        if (!want.equals(got)) {
            wrong++;
            if (wrong <= 40) {
                System.out.println(what + " answered " + got + ", due is " + want);
            }
        }
    }

    void isThrown(String what, Class<? extends RuntimeException> want, Call call) {
        due(what, "throws " + want.getSimpleName(), outcome(call));
    }

    /** The answer of a call, or the name of what it threw. */
    static Object outcome(Call call) {
        try {
            return call.answer();
        } catch (RuntimeException thrown) {
            return "throws " + thrown.getClass().getSimpleName();
        }
    }

    void end(String name) {
        System.out.println(name + ": " + made + " checks, " + wrong + " not as due");
        if (wrong != 0 || made == 0) {
            System.exit(1);
        }
    }
}
