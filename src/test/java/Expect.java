/** Compares answers and exceptions with those that are due, and counts what is wrong. */
final class Expect {
    interface Call {
        Object run();
    }

    static final Class<?> ARGUMENT = IllegalArgumentException.class;
    static final Class<?> INDEX = IndexOutOfBoundsException.class;
    static final Class<?> STATE = IllegalStateException.class;

    private static int compared = 0;
    private static int wrong = 0;

    private Expect() {
    }

    static void answer(String call, Object due, Call made) {
        Object got = answerOf(made);
        compared++;
        if (!due.equals(got)) {
            wrong++;
            System.out.println(call + " answered " + got + ", due is " + due);
        }
    }

    static void thrown(String call, Class<?> due, Call made) {
        answer(call, due, made);
    }

    /** The call is due to be possible, whatever it answers. */
    static void possible(String call, Call made) {
        answer(call, "an answer", () -> isThrown(answerOf(made)) ? "an exception" : "an answer");
    }

    static boolean isThrown(Object answer) {
        return answer instanceof Class;
    }

    /** The answer, or the class of the exception; exactly that class is due, not one below it. */
    static Object answerOf(Call made) {
        try {
            return made.run();
        } catch (RuntimeException e) {
            return e.getClass();
        }
    }

    static void end() {
        System.out.println(compared + " answers compared, " + wrong + " wrong");
        if (wrong != 0 || compared == 0) {
            System.exit(1);
        }
    }
}
