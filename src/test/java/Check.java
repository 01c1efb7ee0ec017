/** Counts the answers of a test that are not due, tells each, and ends the test by its exit code. */
final class Check {
    interface Call {
        Object answer();
    }

    private static int wrong = 0;
    private static int asked = 0;

    private Check() {
    }

    /** The answer of a call, or the name of what it throws. */
    static String answerOf(Call call) {
        try {
            return String.valueOf(call.answer());
        } catch (RuntimeException e) {
            return "throws." + e.getClass().getSimpleName();
        }
    }

    static void due(String what, Object want, Call call) {
        asked++;
        String got = answerOf(call);
        if (!got.equals(String.valueOf(want))) {
            wrong++;
            System.out.println(what + ": answered " + got + ", due is " + want);
        }
    }

    static void noSuch(String what, Call call) {
        due(what, "throws.IndexOutOfBoundsException", call);
    }

    static void badState(String what, Call call) {
        due(what, "throws.IllegalStateException", call);
    }

    static void badArgument(String what, Call call) {
        due(what, "throws.IllegalArgumentException", call);
    }

    static void end(String name) {
        System.out.println(name + ": " + asked + " answers, " + wrong + " wrong");
        if (wrong != 0 || asked == 0) {
            System.exit(1);
        }
    }
}
