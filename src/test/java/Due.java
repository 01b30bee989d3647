import java.io.IOException;
import java.nio.file.Files;
import java.nio.file.Path;

/** Counts the answers that are not the ones due, and ends the program with 1 if there was one. */
final class Due {
    private static final Path DOCUMENT = Path.of("../shared/DOC.md");

    private final String test;
    private final String document;
    private String about;
    private int sentences;
    private int asked;
    private int wrong;

    Due(String test) {
        this.test = test;
        document = read();
        about = "";
    }

    /** A document that is not there cannot be looked into: the tests are run all the same. */
    private static String read() {
        try {
            return Files.exists(DOCUMENT) ? Files.readString(DOCUMENT) : null;
        } catch (IOException e) {
            return null;
        }
    }

    /** A test of the document's own words; what it throws is a wrong answer, and the next one is still run. */
    void sentence(String words, Runnable made) {
        sentences++;
        about = " [" + words + "]";
        yes("these are words of the document", document == null || document.contains(words));
        try {
            made.run();
        } catch (RuntimeException e) {
            yes("ended by " + e, false);
        }
        about = "";
    }

    void is(String call, long got, long want) {
        asked++;
        if (got != want) {
            tell(call + " answered " + got + ", due is " + want);
        }
    }

    void yes(String call, boolean got) {
        is(call, got ? 1 : 0, 1);
    }

    void no(String call, boolean got) {
        is(call, got ? 1 : 0, 0);
    }

    /** The very class is due, thrown by CleanChecks itself: else it is the machine's own, or the library's. */
    void fails(String call, Class<? extends RuntimeException> want, Runnable made) {
        asked++;
        RuntimeException got = null;
        try {
            made.run();
        } catch (RuntimeException e) {
            got = e;
        }
        if (got == null || got.getClass() != want || !isOwn(got)) {
            tell(call + " threw " + got + ", due is " + want);
        }
    }

    static boolean isOwn(RuntimeException thrown) {
        StackTraceElement[] trace = thrown.getStackTrace();
        return trace.length > 0 && trace[0].getClassName().startsWith("CleanChecks");
    }

    private void tell(String what) {
        wrong++;
        System.out.println(test + about + ": " + what);
    }

    void end() {
        String of = sentences > 0 ? sentences + " sentences, " : "";
        System.out.println(test + ": " + of + asked + " asked, " + wrong + " wrong");
        if (wrong != 0) {
            System.exit(1);
        }
    }
}
