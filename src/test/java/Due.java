/** Compares answers with what is due, and prints those that are not. */
final class Due {
    private static int wrong = 0;
    private static int asked = 0;

    private Due() {
    }

    static void is(String what, long got, long want) {
        asked++;
        if (got != want) {
            wrong++;
            if (wrong <= 50) {
                System.out.println(what + " answered " + got + ", due is " + want);
            }
        }
    }

    static void holds(String what, boolean so) {
        is(what, so ? 1 : 0, 1);
    }

    static int wrong() {
        return wrong;
    }

    static int asked() {
        return asked;
    }

    /** Ends the program with 1 if an answer was wrong, or if nothing was asked. */
    static void end(String test) {
        System.out.println(test + ": " + asked + " answers, " + wrong + " of them wrong");
        if (wrong != 0 || asked == 0) {
            System.exit(1);
        }
    }
}
