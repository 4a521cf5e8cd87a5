import java.util.Objects;
import java.util.function.Supplier;

/** What all tests share: counts the answers that are not due, tells them, and ends the program. */
final class Check {
    private static int looked = 0;
    private static int wrong = 0;
    private static String sentence = "";
    private static int wrongInSentence = 0;

    private Check() {
    }

    interface Call {
        Object answer();
    }

    interface CallOn {
        Object answer(Coppinghouse x);
    }

    /** Names the promise, and the document's words, that all answers from now on stand for. */
    static void sentence(String promise, String words) {
        sentence = promise + " \"" + words + "\": ";
        wrongInSentence = 0;
    }

    /** Runs one test; an exception out of it is one wrong answer, and the tests behind it run all the same. */
    static void each(Runnable test) {
        due("the test", told(() -> ended(test)), "ended");
    }

    private static String ended(Runnable test) {
        test.run();
        return "ended";
    }

    /** The answer of a call as a text; an exception is told by its simple name behind "throws.". */
    static String told(Call call) {
        try {
            return String.valueOf(call.answer());
        } catch (RuntimeException thrown) {
            return "throws." + thrown.getClass().getSimpleName();
        }
    }

    static void due(String what, Object got, Object due) {
        looked++;
        if (!Objects.equals(String.valueOf(got), String.valueOf(due))) {
            wrong++;
            wrongInSentence++;
            if (wrongInSentence <= 20) {
                System.out.println(sentence + what + " answered " + got + ", due is " + due);
            }
        }
    }

    static void index(String what, Call call) {
        due(what, told(call), "throws.IndexOutOfBoundsException");
    }

    static void argument(String what, Call call) {
        due(what, told(call), "throws.IllegalArgumentException");
    }

    static void state(String what, Call call) {
        due(what, told(call), "throws.IllegalStateException");
    }

    /** A call throws, and all that can be asked is behind it as in an object that was made in the same way. */
    static void changesNothing(String what, Supplier<Coppinghouse> made, CallOn call, String due) {
        Coppinghouse x = made.get();
        due(what, told(() -> call.answer(x)), due);
        due(what + ", and all behind it", Whole.unwound(x), Whole.unwound(made.get()));
    }

    static void end(String test) {
        System.out.println(test + ": " + looked + " looked at, " + wrong + " wrong");
        if (wrong > 0 || looked == 0) {
            System.exit(1);
        }
    }
}
