/** Counts and prints the answers that are not the due ones. */
final class Due {
    private static int asked = 0;
    private static int wrong = 0;
    private static String part = "";

    private Due() {
    }

    static void part(String name) {
        part = name;
    }

    static void is(String call, long got, long want) {
        asked++;
        if (got != want) {
            wrong++;
            System.out.println(part + ": " + call + " answered " + got + ", due is " + want);
        }
    }

    static void isFloat(String call, float got, float want) {
        is(call + " (as bits)", Float.floatToIntBits(got), Float.floatToIntBits(want));
    }

    static void holds(String what, boolean so) {
        is(what, so ? 1 : 0, 1);
    }

    static int wrongSoFar() {
        return wrong;
    }

    /** Ends the test. */
    static void tell(String test) {
        System.out.println(test + ": " + asked + " answers, " + wrong + " wrong");
        if (wrong != 0 || asked == 0) {
            System.exit(1);
        }
    }
}
