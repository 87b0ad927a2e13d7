import java.util.NoSuchElementException;

/** Counts checks, prints those that fail, and ends the test with exit code 1 if there was one. */
final class Check {
    static final long NO_SUCH_ELEMENT = Long.MIN_VALUE;
    static final long ILLEGAL_ARGUMENT = Long.MIN_VALUE + 1;

    private static int checks = 0;
    private static int wrong = 0;

    interface Call {
        long answer();
    }

    private Check() {
    }

    /** What a call answers, or which of the document's exceptions it throws; any other one is not caught. */
    static long answerOf(Call call) {
        try {
            return call.answer();
        } catch (NoSuchElementException e) {
            return NO_SUCH_ELEMENT;
        } catch (IllegalArgumentException e) {
            return e.getClass() == IllegalArgumentException.class ? ILLEGAL_ARGUMENT : Long.MIN_VALUE + 9;
        }
    }

    static void same(String what, long want, Call call) {
        long got = answerOf(call);
        checks++;
        if (got != want) {
            wrong++;
            System.out.println(what + ": " + told(got) + ", due is " + told(want));
        }
    }

    static void same(String what, long want, long got) {
        same(what, want, () -> got);
    }

    static void isTrue(String what, boolean is) {
        same(what, 1, is ? 1 : 0);
    }

    static void noSuchElement(String what, Call call) {
        same(what, NO_SUCH_ELEMENT, call);
    }

    static void illegalArgument(String what, Call call) {
        same(what, ILLEGAL_ARGUMENT, call);
    }

    static long bit(boolean is) {
        return is ? 1 : 0;
    }

    static int wrong() {
        return wrong;
    }

    static void end() {
        System.out.println(checks + " checks, " + wrong + " wrong");
        if (wrong != 0 || checks == 0) {
            System.exit(1);
        }
    }

    private static String told(long answer) {
        if (answer == NO_SUCH_ELEMENT) {
            return "NoSuchElementException";
        }
        return answer == ILLEGAL_ARGUMENT ? "IllegalArgumentException" : String.valueOf(answer);
    }
}
