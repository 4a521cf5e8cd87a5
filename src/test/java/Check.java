import java.util.Objects;

/** What all tests share: counts the answers that are not due, tells them, and ends the program. */
final class Check {
    private static int looked = 0;
    private static int wrong = 0;

    private Check() {
    }

    interface Call {
        Object answer();
    }

    /** The answer of a call as a text; an exception is told by its simple name behind "throws.". */
    static String told(Call call) {
        try {
            return String.valueOf(call.answer());
        } catch (RuntimeException thrown) {
            return "throws." + thrown.getClass().getSimpleName();
        }
    }

    static void due(String what, Object got, Object due) {
        looked++;
        if (!Objects.equals(String.valueOf(got), String.valueOf(due))) {
            wrong++;
            if (wrong <= 20) {
                System.out.println(what + " answered " + got + ", due is " + due);
            }
        }
    }

    static void index(String what, Call call) {
        due(what, told(call), "throws.IndexOutOfBoundsException");
    }

    static void argument(String what, Call call) {
        due(what, told(call), "throws.IllegalArgumentException");
    }

    static void state(String what, Call call) {
        due(what, told(call), "throws.IllegalStateException");
    }

    static void end(String test) {
        System.out.println(test + ": " + looked + " looked at, " + wrong + " wrong");
        if (wrong > 0 || looked == 0) {
            System.exit(1);
        }
    }
}
