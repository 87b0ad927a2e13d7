import java.lang.reflect.InvocationTargetException;
import java.lang.reflect.Method;
import java.util.Arrays;
import java.util.Comparator;
import java.util.NoSuchElementException;

/** Counts checks, prints those that fail, and ends the test with exit code 1 if there was one. */
final class Check {
    static final long NO_SUCH_ELEMENT = Long.MIN_VALUE;
    static final long ILLEGAL_ARGUMENT = Long.MIN_VALUE + 1;
    private static final long ANOTHER_EXCEPTION = Long.MIN_VALUE + 2;

    private static int checks = 0;
    private static int wrong = 0;
    private static String test = "";

    interface Call {
        long answer();
    }

    private Check() {
    }

    /** Runs each method of a class whose name begins with 'promise': each is a test of its own. */
    static void runAll(Class<?> tests) {
        Method[] methods = tests.getDeclaredMethods();
        Arrays.sort(methods, Comparator.comparing(Method::getName));
        int many = 0;
        for (Method method : methods) {
            if (method.getName().startsWith("promise")) {
                many++;
                runOne(method);
            }
        }
        isTrue(tests.getName() + " has tests", many > 0);
        end();
    }

    private static void runOne(Method method) {
        test = method.getName() + ": ";
        int before = checks;
        try {
            method.setAccessible(true);
            method.invoke(null);
        } catch (InvocationTargetException e) {
            same("it threw " + e.getCause(), 0, 1);
        } catch (IllegalAccessException e) {
            throw new AssertionError(e);
        }
        isTrue("it checks something", checks > before);
        test = "";
    }

    /** What a call answers, or which of the document's exceptions it throws; any other one is not caught. */
    static long answerOf(Call call) {
        try {
            return call.answer();
        } catch (NoSuchElementException e) {
            return e.getClass() == NoSuchElementException.class ? NO_SUCH_ELEMENT : ANOTHER_EXCEPTION;
        } catch (IllegalArgumentException e) {
            return e.getClass() == IllegalArgumentException.class ? ILLEGAL_ARGUMENT : ANOTHER_EXCEPTION;
        }
    }

    static void same(String what, long want, Call call) {
        long got = answerOf(call);
        checks++;
        if (got != want) {
            wrong++;
            System.out.println(test + what + ": " + told(got) + ", due is " + told(want));
        }
    }

    static void same(String what, long want, long got) {
        same(what, want, () -> got);
    }

    static void isTrue(String what, boolean is) {
        same(what, 1, is ? 1 : 0);
    }

    static void isFalse(String what, boolean is) {
        same(what, 0, is ? 1 : 0);
    }

    static void noSuchElement(String what, Call call) {
        same(what, NO_SUCH_ELEMENT, call);
    }

    static void illegalArgument(String what, Call call) {
        same(what, ILLEGAL_ARGUMENT, call);
    }

    static long bit(boolean is) {
        return is ? 1 : 0;
    }

    static int wrong() {
        return wrong;
    }

    static void end() {
        System.out.println(checks + " checks, " + wrong + " wrong");
        if (wrong != 0 || checks == 0) {
            System.exit(1);
        }
    }

    private static String told(long answer) {
        if (answer == NO_SUCH_ELEMENT) {
            return "NoSuchElementException";
        }
        if (answer == ANOTHER_EXCEPTION) {
            return "another exception";
        }
        return answer == ILLEGAL_ARGUMENT ? "IllegalArgumentException" : String.valueOf(answer);
    }
}
