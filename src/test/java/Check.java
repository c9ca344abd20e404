/** Counts and prints the answers that are not as due; every test of the project ends by it. */
final class Check {
    /** Far more than any test needs: a call that does not end must fail the test, not hold it. */
    private static final long MOST_MILLISECONDS = 300_000;

    private int made;
    private int wrong;

    Check() {
        Thread watch = new Thread(Check::endLate);
        watch.setDaemon(true);
        watch.start();
    }

    void due(String what, long got, long want) {
        made++;
        if (got != want) {
            wrong++;
            System.out.println(what + " answered " + got + ", due is " + want);
        }
    }

    void due(String what, boolean got, boolean want) {
        due(what, got ? 1 : 0, want ? 1 : 0);
    }

    boolean failed() {
        return wrong != 0;
    }

    void end() {
        System.out.println(made + " answers looked at, " + wrong + " not as due");
        if (wrong != 0 || made == 0) {
            System.exit(1);
        }
    }

    private static void endLate() {
        try {
            Thread.sleep(MOST_MILLISECONDS);
            System.out.println("a call does not end");
            Runtime.getRuntime().halt(1);
        } catch (InterruptedException e) {
            System.out.println("nobody watches for calls that do not end");
        }
    }
}
