/** Counts the answers that were looked at, and prints those that are not due. */
final class Check {
    private static final int MOST_MINUTES = 10;

    /** A class that is wrong everywhere need not be told so at length. */
    private static final int MOST_TOLD = 30;

    private static int looked;
    private static int wrong;

    static {
        Thread watch = new Thread(Check::giveUp);
        watch.setDaemon(true);
        watch.start();
    }

    private Check() {
    }

    static boolean due(String call, long got, long want) {
        looked++;
        if (got == want) {
            return true;
        }
        tell(call + " answered " + got + ", due is " + want);
        return false;
    }

    static boolean due(String call, String got, String want) {
        looked++;
        if (got.equals(want)) {
            return true;
        }
        tell(call + " answered\n" + got + "\ndue is\n" + want);
        return false;
    }

    private static void tell(String fault) {
        System.out.println(fault);
        wrong++;
        if (wrong == MOST_TOLD) {
            end("given up");
        }
    }

    /** A call that does not end is a fault, too. */
    private static void giveUp() {
        try {
            Thread.sleep(MOST_MINUTES * 60_000L);
        } catch (InterruptedException e) {
            return;
        }
        System.out.println("no end after " + MOST_MINUTES + " minutes");
        Runtime.getRuntime().halt(1);
    }

    /** Ends the test, with exit code 1 if an answer was wrong. */
    static void end(String name) {
        System.out.println(name + ": " + looked + " answers looked at, " + wrong + " wrong");
        System.exit(wrong == 0 ? 0 : 1);
    }
}
