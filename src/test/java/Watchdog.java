/** Ends a test in which some call does not end, so that it fails and does not hang. */
final class Watchdog {
    /** Far above what any test needs. */
    private static final long MOST_MILLISECONDS = 300_000;

    private Watchdog() {
    }

    static void start() {
        Thread thread = new Thread(Watchdog::bite);
        thread.setDaemon(true);
        thread.start();
    }

    private static void bite() {
        try {
            Thread.sleep(MOST_MILLISECONDS);
        } catch (InterruptedException e) {
            return;
        }
        System.out.println("the test has not ended in " + MOST_MILLISECONDS / 1000 + " seconds");
        Runtime.getRuntime().halt(1);
    }
}
