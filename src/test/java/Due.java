/** Counts the answers that are not the ones due, and ends the program with 1 if there was one. */
final class Due {
    private final String test;
    private int asked;
    private int wrong;

    Due(String test) {
        this.test = test;
    }

    void is(String call, long got, long want) {
        asked++;
        if (got != want) {
            wrong++;
            System.out.println(test + ": " + call + " answered " + got + ", due is " + want);
        }
    }

    void yes(String call, boolean got) {
        is(call, got ? 1 : 0, 1);
    }

    void no(String call, boolean got) {
        is(call, got ? 1 : 0, 0);
    }

    /** The very class is due, thrown by CleanChecks itself: else it is the machine's own, or the library's. */
    void fails(String call, Class<? extends RuntimeException> want, Runnable made) {
        asked++;
        RuntimeException got = null;
        try {
            made.run();
        } catch (RuntimeException e) {
            got = e;
        }
        if (got == null || got.getClass() != want || !isOwn(got)) {
            wrong++;
            System.out.println(test + ": " + call + " threw " + got + ", due is " + want);
        }
    }

    static boolean isOwn(RuntimeException thrown) {
        StackTraceElement[] trace = thrown.getStackTrace();
        return trace.length > 0 && trace[0].getClassName().startsWith("CleanChecks");
    }

    void end() {
        System.out.println(test + ": " + asked + " asked, " + wrong + " wrong");
        if (wrong != 0) {
            System.exit(1);
        }
    }
}
