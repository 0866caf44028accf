import java.util.function.IntUnaryOperator;

/** Counts and prints the answers that are not the due ones. */
final class Due {
    private static int asked = 0;
    private static int wrong = 0;
    private static String part = "";

    private Due() {
    }

    static void part(String name) {
        part = name;
    }

    /** What follows tests this sentence of the document. */
    static void sentence(String section, String quote) {
        part(section + ", \"" + quote + "\"");
        Document.name(section, quote);
    }

    static void is(String call, long got, long want) {
        asked++;
        if (got != want) {
            wrong++;
            System.out.println(part + ": " + call + " answered " + got + ", due is " + want);
        }
    }

    static void isFloat(String call, float got, float want) {
        is(call + " (as bits)", Float.floatToIntBits(got), Float.floatToIntBits(want));
    }

    static void same(String what, String got, String want) {
        asked++;
        if (!got.equals(want)) {
            wrong++;
            System.out.println(part + ": " + what + ": " + firstDifference(got, want));
        }
    }

    private static String firstDifference(String got, String want) {
        String[] gotLines = got.split("\n");
        String[] wantLines = want.split("\n");
        for (int line = 0; line < Math.min(gotLines.length, wantLines.length); line++) {
            if (!gotLines[line].equals(wantLines[line])) {
                return "told \"" + gotLines[line] + "\", due is \"" + wantLines[line] + "\"";
            }
        }
        return "told " + gotLines.length + " lines, due are " + wantLines.length;
    }

    static void holds(String what, boolean so) {
        is(what, so ? 1 : 0, 1);
    }

    /** Asks for the least and the greatest value, and for the first and the farthest ones beyond. */
    static void range(String call, IntUnaryOperator answer, int least, int most, int fine, int beyond) {
        is(call + " of " + least, answer.applyAsInt(least), fine);
        is(call + " of " + most, answer.applyAsInt(most), fine);
        for (int value : new int[] {least - 1, most + 1, Integer.MIN_VALUE, Integer.MAX_VALUE}) {
            is(call + " of " + value, answer.applyAsInt(value), beyond);
        }
    }

    static int wrongSoFar() {
        return wrong;
    }

    /** Ends the test. */
    static void tell(String test) {
        System.out.println(test + ": " + asked + " answers, " + wrong + " wrong");
        if (wrong != 0 || asked == 0) {
            System.exit(1);
        }
    }
}
