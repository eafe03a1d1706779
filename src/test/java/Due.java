/** Counts answers that are not as due; a test's main ends with ends(). */
final class Due {
    /** What is being tested, ahead of each line that is printed. */
    static String about = "";
    private static int asked = 0;
    private static int wrong = 0;

    private Due() {
    }

    static int asked() {
        return asked;
    }

    static void is(String what, long got, long want) {
        asked++;
        if (got != want) {
            wrong++;
            System.out.println(about + what + " answered " + got + ", due is " + want);
        }
    }

    static void is(String what, boolean got, boolean want) {
        is(what, got ? 1 : 0, want ? 1 : 0);
    }

    static void ends(String test) {
        System.out.println(test + ": " + asked + " answers, " + wrong + " not as due");
        if (wrong != 0 || asked == 0) {
            System.exit(1);
        }
    }
}
