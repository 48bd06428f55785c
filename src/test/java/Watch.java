/** Ends a test as failed whose calls do not end. */
final class Watch {
    private static final long LONGEST = 300_000;

    private Watch() { }

    static void start() {
        Thread thread = new Thread(Watch::waitAndHalt);
        thread.setDaemon(true);
        thread.start();
    }

    private static void waitAndHalt() {
        try {
            Thread.sleep(LONGEST);
        } catch (InterruptedException e) {
            Thread.currentThread().interrupt();
        }
        System.out.println("a call does not end");
        Runtime.getRuntime().halt(1);
    }
}
