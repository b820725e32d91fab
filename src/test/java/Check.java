/** Counts and prints the answers of a test that are not as due. */
final class Check {
    private static int checked = 0;
    private static int wrong = 0;

    private Check() {
    }

    static void due(String call, long got, long want) {
        checked++;
        if (got != want) {
            wrong++;
            System.out.println(call + " answered " + got + ", due is " + want);
        }
    }

    static void isTrue(String what, boolean holds) {
        checked++;
        if (!holds) {
            wrong++;
            System.out.println(what + " does not hold");
        }
    }

    /** Types a text behind the one that is there. */
    static void typeAll(VernierSchool school, String text) {
        for (int i = 0; i < text.length(); i++) {
            school.type(text.charAt(i));
        }
    }

    /** Ends the test, with the exit code 1 if an answer was not as due. */
    static void end() {
        System.out.println(checked + " answers looked at, " + wrong + " not as due");
        if (wrong != 0) {
            System.exit(1);
        }
    }
}
