import java.util.function.IntUnaryOperator;

/** Counts and prints the answers of a test that are not as due. */
final class Check {
    private static int checked = 0;
    private static int wrong = 0;
    private static String sentence = "";

    private Check() {
    }

    /** The sentence of the document that the checks from here on are about. */
    static void sentence(String words) {
        sentence = words;
    }

    static void due(String call, long got, long want) {
        if (got != want) {
            fail(call + " answered " + got + ", due is " + want);
        }
        checked++;
    }

    static void isTrue(String what, boolean holds) {
        if (!holds) {
            fail(what + " does not hold");
        }
        checked++;
    }

    private static void fail(String message) {
        wrong++;
        System.out.println(sentence.isEmpty() ? message : message + "  [" + sentence + "]");
    }

    /** An argument is accepted from the least to the most, and is a BAD_VALUE outside of these. */
    static void bounds(String call, int least, int most, IntUnaryOperator answer) {
        accepted(call, least, answer);
        accepted(call, most, answer);
        int[] outside = {least - 1, most + 1, Integer.MIN_VALUE, Integer.MAX_VALUE};
        for (int value : outside) {
            due(call + " with " + value, answer.applyAsInt(value), VernierSchool.BAD_VALUE);
        }
    }

    /** The numbers below a count are known, and no others. */
    static void numbers(String call, int count, IntUnaryOperator answer) {
        accepted(call, 0, answer);
        accepted(call, count - 1, answer);
        int[] unknown = {-1, count, Integer.MIN_VALUE, Integer.MAX_VALUE};
        for (int number : unknown) {
            due(call + " of " + number, answer.applyAsInt(number), VernierSchool.UNKNOWN);
        }
    }

    private static void accepted(String call, int value, IntUnaryOperator answer) {
        int got = answer.applyAsInt(value);
        isTrue(call + " with " + value + " is accepted, not " + got,
                got > VernierSchool.UNKNOWN || got == VernierSchool.NONE);
    }

    /** Types a text behind the one that is there. */
    static void typeAll(VernierSchool school, String text) {
        for (int i = 0; i < text.length(); i++) {
            school.type(text.charAt(i));
        }
    }

    /** Ends the test, with the exit code 1 if an answer was not as due. */
    static void end() {
        System.out.println(checked + " answers looked at, " + wrong + " not as due");
        if (wrong != 0) {
            System.exit(1);
        }
    }
}
