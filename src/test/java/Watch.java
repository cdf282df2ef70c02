/** Ends a test that does not end: no call may fail to end. */
final class Watch {
    private static final int SECONDS = 60;

    private Watch() {
    }

    static void start() {
        Thread watch = new Thread(Watch::waitAndHalt);
        watch.setDaemon(true);
        watch.start();
    }

    private static void waitAndHalt() {
        try {
            Thread.sleep(1000L * SECONDS);
        } catch (InterruptedException early) {
            return;
        }
        System.out.println("not at its end after " + SECONDS + " seconds");
        System.out.flush();
        Runtime.getRuntime().halt(1);
    }
}
