/** Counts the answers that were looked at, and prints those that are not due. */
final class Check {
    private static int looked;
    private static int wrong;

    private Check() {
    }

    static boolean due(String call, long got, long want) {
        looked++;
        if (got == want) {
            return true;
        }
        wrong++;
        System.out.println(call + " answered " + got + ", due is " + want);
        return false;
    }

    static boolean due(String call, String got, String want) {
        looked++;
        if (got.equals(want)) {
            return true;
        }
        wrong++;
        System.out.println(call + " answered\n" + got + "\ndue is\n" + want);
        return false;
    }

    /** Ends the test, with exit code 1 if an answer was wrong. */
    static void end(String name) {
        System.out.println(name + ": " + looked + " answers looked at, " + wrong + " wrong");
        System.exit(wrong == 0 ? 0 : 1);
    }
}
