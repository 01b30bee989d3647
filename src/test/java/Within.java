/** Runs the main method of a test, and fails when it does not end: a call that never answers is a wrong one too. */
public final class Within {
    /** Far above what any test takes. */
    private static final long LONGEST_MILLIS = 300_000;

    public static void main(String[] args) throws ReflectiveOperationException {
        Thread watcher = new Thread(() -> failLater(args[0]));
        watcher.setDaemon(true);
        watcher.start();
        Class.forName(args[0]).getMethod("main", String[].class).invoke(null, (Object) new String[0]);
    }

    private static void failLater(String test) {
        try {
            Thread.sleep(LONGEST_MILLIS);
        } catch (InterruptedException e) {
            return;
        }
        System.out.println(test + ": did not end");
        Runtime.getRuntime().halt(1);
    }
}
