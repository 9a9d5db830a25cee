/** What the tests share: compares answers with what is due, counts and prints those that are wrong. */
final class Due {
    interface Call {
        Object answer();
    }

    private static int wrong = 0;
    private static int asked = 0;
    private static String subject = "";

    private Due() {
    }

    /** What the answers that follow are about; it stands before each of them that is wrong. */
    static void about(String newSubject) {
        subject = newSubject;
    }

    static int asked() {
        return asked;
    }

    static void is(String what, Object got, Object want) {
        asked++;
        if (!want.equals(got)) {
            wrong++;
            System.out.println(subject + what + " answered " + got + ", due is " + want);
        }
    }

    static void is(String what, boolean holds) {
        is(what, holds, true);
    }

    /** The answer of a call, or the simple name of what it throws. */
    static Object answerOf(Call call) {
        try {
            return call.answer();
        } catch (RuntimeException e) {
            return "throws " + e.getClass().getSimpleName();
        }
    }

    static void throwsArgument(String what, Call call) {
        is(what, answerOf(call), "throws IllegalArgumentException");
    }

    static void throwsState(String what, Call call) {
        is(what, answerOf(call), "throws IllegalStateException");
    }

    static void throwsIndex(String what, Call call) {
        is(what, answerOf(call), "throws IndexOutOfBoundsException");
    }

    /** Ends the program, with exit code 1 if an answer was wrong. */
    static void end() {
        System.out.println(asked + " answers looked at, " + wrong + " wrong");
        System.exit(wrong == 0 ? 0 : 1);
    }
}
