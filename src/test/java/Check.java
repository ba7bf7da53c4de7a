/** Counts what is as due and what is not, and ends a test with the exit code that tells it. */
final class Check {
    private static int right = 0;
    private static int wrong = 0;

    private Check() {
    }

    static void due(String what, long want, long got) {
        if (want == got) {
            right++;
        } else {
            wrong++;
            System.out.println(what + " answered " + got + ", due is " + want);
        }
    }

    static void holds(String what, boolean isTrue) {
        if (isTrue) {
            right++;
        } else {
            wrong++;
            System.out.println(what + " does not hold");
        }
    }

    static int faults() {
        return wrong;
    }

    static void end(String test) {
        System.out.println(test + ": " + right + " answers as due, " + wrong + " not");
        System.exit(wrong == 0 && right > 0 ? 0 : 1);
    }
}
