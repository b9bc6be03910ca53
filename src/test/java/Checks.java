/** What the tests share: counting wrong answers, and ending with exit code 1 if there was one. */
final class Checks {
    private static int wrong;
    private static int made;

    interface Call {
        Object answer();
    }

    private Checks() {
    }

    static void due(String call, Object got, Object want) {
        made++;
        if (!got.equals(want)) {
            wrong++;
            System.out.println(call + " answered " + got + ", due is " + want);
        }
    }

    static void fails(String call, Class<? extends RuntimeException> kind, Call made) {
        due(call, answerOf(made), "throws " + kind.getSimpleName());
    }

    /** What a call answers, or "throws " and the simple name of what it throws. */
    static Object answerOf(Call call) {
        try {
            return call.answer();
        } catch (RuntimeException e) {
            return "throws " + e.getClass().getSimpleName();
        }
    }

    static int wrong() {
        return wrong;
    }

    static void end() {
        System.out.println(made + " checks, " + wrong + " wrong");
        if (wrong != 0) {
            System.exit(1);
        }
    }
}
