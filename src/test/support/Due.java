/** Counts and tells the answers that are not as due. */
final class Due {
    private static int wrong = 0;

    private Due() {
    }

    static void is(String where, String what, int got, int want) {
        if (got != want) {
            tell(where + ": " + what + " answered " + got + ", due is " + want);
        }
    }

    static void tell(String fault) {
        wrong++;
        System.out.println(fault);
    }

    static void end() {
        System.out.println(wrong == 0 ? "all is as due" : wrong + " faults");
        if (wrong != 0) {
            System.exit(1);
        }
    }
}
