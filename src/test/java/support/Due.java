/** Counts the answers that are not as they are due and tells each. */
public final class Due {
    private static int wrong = 0;
    private static int asked = 0;

    private Due() {
    }

    public static void is(String what, long got, long want) {
        asked++;
        if (got != want) {
            wrong++;
            System.out.println(what + " answered " + got + ", due is " + want);
        }
    }

    public static int wrong() {
        return wrong;
    }

    /** Ends the test: exit code 1 if an answer was wrong. */
    public static void end() {
        System.out.println(asked + " answers, " + wrong + " not as due");
        if (wrong != 0 || asked == 0) {
            System.exit(1);
        }
    }
}
