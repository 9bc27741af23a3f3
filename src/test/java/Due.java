import java.util.concurrent.Callable;

/** Counts the answers that are not those that are due. */
final class Due {
    private static final String[] THROWN = {"IndexOutOfBoundsException", "IllegalArgumentException", "IllegalStateException"};
    static final String BOUNDS = THROWN[0];
    static final String ARGUMENT = THROWN[1];
    static final String STATE = THROWN[2];

    private static int asked = 0;
    private static int wrong = 0;

    private Due() {
    }

    static void is(String call, Object want, Object got) {
        asked++;
        if (!String.valueOf(want).equals(String.valueOf(got))) {
            wrong++;
            System.out.println(call + " answered " + got + ", due is " + want);
        }
    }

    /** The answer of a call, or "throws" and the name of what it throws. */
    static Object answer(Callable<?> call) {
        try {
            return call.call();
        } catch (Exception thrown) {
            return "throws " + thrown.getClass().getSimpleName();
        }
    }

    static void throwing(String call, String want, Callable<?> got) {
        is(call, "throws " + want, answer(got));
    }

    static void end() {
        System.out.println(asked + " answers, " + wrong + " wrong");
        if (wrong > 0) {
            System.exit(1);
        }
    }
}
