import java.util.function.IntToLongFunction;

/** Counts what is as due and what is not, and ends a test with the exit code that tells it. */
final class Check {
    private static int right = 0;
    private static int wrong = 0;
    private static String sentence = "";

    private Check() {
    }

    /** Names the sentence of the document that is looked at from here on. */
    static void sentence(String words) {
        sentence = words + ": ";
    }

    static void due(String what, long want, long got) {
        if (want == got) {
            right++;
        } else {
            wrong++;
            System.out.println(sentence + what + " answered " + got + ", due is " + want);
        }
    }

    /** One call for each of several arguments, with the same answer due. */
    static void dueForEach(String what, long want, IntToLongFunction call, int... arguments) {
        for (int argument : arguments) {
            due(what + " " + argument, want, call.applyAsLong(argument));
        }
    }

    static void holds(String what, boolean isTrue) {
        if (isTrue) {
            right++;
        } else {
            wrong++;
            System.out.println(sentence + what + " does not hold");
        }
    }

    static int faults() {
        return wrong;
    }

    static void end(String test) {
        System.out.println(test + ": " + right + " answers as due, " + wrong + " not");
        System.exit(wrong == 0 && right > 0 ? 0 : 1);
    }
}
