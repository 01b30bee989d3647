import java.io.IOException;
import java.lang.reflect.Method;
import java.lang.reflect.Modifier;
import java.nio.file.Files;
import java.nio.file.Path;
import java.util.List;

/** What README.md tells of the class is so: its example is run here, and must be written there in the same lines. */
public final class ReadmeTest {
    private static final Path README = Path.of("README.md");
    private static final Path HERE = Path.of("src/test/java/ReadmeTest.java");
    private static final Path TESTS = Path.of("src/test/java");
    private static final Due due = new Due("ReadmeTest");

    public static void main(String[] args) throws IOException {
        example();
        exampleIsThatOfTheReadme();
        tellsEachCall(Files.readString(README));
        tellsEachTest(Files.readString(README));
        due.end();
    }

    private static void example() {
        CleanChecks checks = new CleanChecks(2);                // layers 0 and 1
        due.fails("layer 2", IndexOutOfBoundsException.class, () -> checks.shape(1, 2, 0));
        int track = checks.shape(1, 0, 0);                      // 0: of net 1, on layer 0, a track
        due.is("track", track, 0);
        checks.corner(track, 0, 0);
        checks.corner(track, 10, 0);
        checks.closeShape(track, 2);                            // radius 2; now it is looked at
        int pad = checks.shape(2, 0, 1);                        // 1: of net 2, on layer 0, a pad
        due.is("pad", pad, 1);
        checks.corner(pad, 10, 6);
        checks.closeShape(pad, 3);
        checks.rule(0, CleanChecks.NONE, CleanChecks.NONE, 2);  // CLEAR, of any two classes: 2 apart at least
        int open = checks.run(1, 0);                            // 1: they are 1 apart
        due.is("open", open, 1);
        int kind = checks.violation(0, 0);                      // 0: CLEAR
        due.is("kind", kind, 0);
        int a = checks.violation(0, 1);                         // 0: the track
        due.is("a", a, track);
        int b = checks.violation(0, 2);                         // 1: the pad
        due.is("b", b, pad);
        long x = checks.place(0, 0);                            // 0: the track's first corner
        due.is("x", x, 0);
        int inBox = checks.near(-5, -5, 5, 5);                  // 1: its border counts
        due.is("in the box", inBox, 1);
        checks.move(pad, 0, 1);
        boolean same = checks.plain();                          // false: they are 2 apart now, as they should be
        due.no("plain", same);
        checks.move(pad, 0, -1);
        checks.waive(0);
        open = checks.run(1, 0);                                // 0: it is found again, but waived
        due.is("open at the end", open, 0);
        due.is("found again", checks.violation(0, 3), 1);
    }

    private static void exampleIsThatOfTheReadme() throws IOException {
        List<String> readme = Files.readAllLines(README);
        List<String> here = Files.readAllLines(HERE).stream().map(String::strip).toList();
        int from = readme.indexOf("```java");
        due.yes("there is an example", from >= 0);
        int at = 0;
        for (int i = from + 1; from >= 0 && i < readme.size() && !readme.get(i).equals("```"); i++) {
            int found = here.subList(at, here.size()).indexOf(readme.get(i).strip());
            due.yes("a line that is run: " + readme.get(i), found >= 0);
            at += found + 1;
        }
        due.yes("to the end of it", at > 0 && here.get(at).startsWith("due.is(\"open at the end\""));
    }

    private static void tellsEachCall(String readme) {
        for (Method method : CleanChecks.class.getDeclaredMethods()) {
            if (Modifier.isPublic(method.getModifiers())) {
                due.yes("tells " + method.getName(), readme.contains("| `" + method.getName() + "("));
            }
        }
    }

    private static void tellsEachTest(String readme) throws IOException {
        due.yes("how they are run", readme.contains("\n.ci/run\n"));
        try (var files = Files.list(TESTS)) {
            for (String name : files.map(file -> file.getFileName().toString()).toList()) {
                String test = name.replace(".java", "");
                due.yes("tells " + test, !test.endsWith("Test") || readme.contains("| `" + test + "` |"));
            }
        }
    }
}
