import com.sun.management.ThreadMXBean;
import java.io.IOException;
import java.lang.management.ManagementFactory;
import java.lang.reflect.Constructor;
import java.lang.reflect.Field;
import java.lang.reflect.Method;
import java.lang.reflect.Modifier;
import java.nio.file.Files;
import java.nio.file.Path;
import java.util.Arrays;
import java.util.Set;
import java.util.TreeSet;
import java.util.regex.Matcher;
import java.util.regex.Pattern;

/** The document's face, and what a program can see of LANGUAGE.md's rules 1, 4, 5, 6, 11 and 12. */
public final class LanguageTest {
    private static final Due due = new Due("LanguageTest");
    /** A hundredth of what a run of calls may make. */
    private static final long MOST_BYTES = 8 * 73_000L;
    private static final String INDEX = "IndexOutOfBoundsException";
    private static final String STATE = "IllegalStateException";
    private static final String ARGUMENT = "IllegalArgumentException";

    private static final String[] FACE = {
        "int shape(int, int, int) " + INDEX + " " + ARGUMENT,
        "boolean corner(int, long, long) " + INDEX + " " + STATE + " " + ARGUMENT,
        "boolean closeShape(int, long) " + INDEX + " " + STATE + " " + ARGUMENT,
        "int rule(int, int, int, long) " + ARGUMENT,
        "boolean cls(int, int) " + INDEX + " " + ARGUMENT,
        "int run(int, long) " + ARGUMENT,
        "int violation(int, int) " + INDEX,
        "long place(int, int) " + INDEX,
        "boolean waive(int) " + INDEX,
        "int near(long, long, long, long) " + ARGUMENT,
        "boolean move(int, long, long) " + INDEX,
        "boolean plain()",
        "int kinds()",
        "int order(int) " + INDEX,
        "int strips(int) " + ARGUMENT,
    };

    public static void main(String[] args) throws IOException {
        face();
        hiddenMembers();
        staticFields();
        source(Files.readString(Path.of("src/main/java/CleanChecks.java")));
        room();
        due.end();
    }

    private static void face() {
        Set<String> seen = new TreeSet<>();
        for (Method method : CleanChecks.class.getDeclaredMethods()) {
            if (!Modifier.isPrivate(method.getModifiers())) {
                due.yes("public and not static: " + method, method.getModifiers() == Modifier.PUBLIC);
                seen.add(told(method));
            }
        }
        due.yes("the methods " + seen, seen.equals(new TreeSet<>(Arrays.asList(FACE))));
        int modifiers = CleanChecks.class.getModifiers();
        due.yes("public final class", Modifier.isPublic(modifiers) && Modifier.isFinal(modifiers));
        Constructor<?>[] made = CleanChecks.class.getDeclaredConstructors();
        due.yes("one constructor of an int", made.length == 1 && made[0].getModifiers() == Modifier.PUBLIC
                && Arrays.equals(made[0].getParameterTypes(), new Class<?>[] {int.class}));
    }

    private static String told(Method method) {
        StringBuilder text = new StringBuilder(method.getReturnType().getSimpleName());
        String types = Arrays.toString(Arrays.stream(method.getParameterTypes()).map(Class::getSimpleName).toArray());
        text.append(' ').append(method.getName()).append('(').append(types, 1, types.length() - 1).append(')');
        for (Class<?> thrown : method.getExceptionTypes()) {
            text.append(' ').append(thrown.getSimpleName());
        }
        return text.toString();
    }

    private static void hiddenMembers() {
        Set<String> names = new TreeSet<>();
        for (String method : FACE) {
            names.add(method.substring(method.indexOf(' ') + 1, method.indexOf('(')));
        }
        methods(CleanChecks.class, names);
        for (Class<?> inner : CleanChecks.class.getDeclaredClasses()) {
            int modifiers = inner.getModifiers();
            due.no("seen from outside: " + inner, Modifier.isPublic(modifiers) || Modifier.isProtected(modifiers));
            methods(inner, names);
        }
    }

    private static void methods(Class<?> of, Set<String> face) {
        for (Method method : of.getDeclaredMethods()) {
            boolean hidden = Modifier.isPrivate(method.getModifiers());
            due.no("a name of the face: " + method, hidden && face.contains(method.getName()));
            due.yes("seven parameters at most: " + method, method.getParameterCount() <= 7);
        }
    }

    private static void staticFields() {
        for (Field field : CleanChecks.class.getDeclaredFields()) {
            int modifiers = field.getModifiers();
            boolean none = field.getName().equals("NONE");
            due.yes("public is NONE alone: " + field, none == Modifier.isPublic(modifiers));
            due.yes("private but for NONE: " + field, none != Modifier.isPrivate(modifiers));
            due.yes("static ones are final: " + field, !Modifier.isStatic(modifiers) || Modifier.isFinal(modifiers));
        }
    }

    /** What the rules leave is let pass, though the program does without it. */
    private static void source(String text) {
        due.yes("characters 0 to 255", text.chars().allMatch(c -> c < 256));
        String code = text.replaceAll("(?s)/\\*.*?\\*/", " ").replaceAll("\"(\\\\.|[^\"\\\\])*\"", "TEXT")
                .replaceAll("//[^\\n]*", " ");
        String[] ruledOut = {"::", "\\bfinally\\b", "\\bsynchronized\\b", "\\bassert\\b", "Exact\\(",
            "\\bstatic\\s*\\{", "\\bpackage\\b", "\\bSystem\\.(?!arraycopy\\()", "\\bThread\\b", "\\bRandom\\b",
            "\\bhashCode\\b", "\\bgetMessage\\b", "\\btry\\s*\\(", "extends\\s+\\w*(Exception|Error|Throwable)\\b"};
        for (String form : ruledOut) {
            due.no("the program has " + form, Pattern.compile(form).matcher(code).find());
        }
        all(code, "import\\s+(?:static\\s+)?([\\w.*]+);",
                "java\\.util\\.(ArrayList|List|Arrays|Iterator|NoSuchElementException)");
        all(code, "\\bthrow\\s+([^;(]+)", "new\\s+(IllegalState|IllegalArgument|IndexOutOfBounds|Arithmetic"
                + "|UnsupportedOperation|NoSuchElement|Runtime)Exception\\s*");
        all(code, "\\b(\\w+)[^;{}]*->", "case|default");
    }

    private static void all(String code, String form, String good) {
        Matcher found = Pattern.compile(form).matcher(code);
        while (found.find()) {
            due.yes("good: " + found.group(), found.group(1).matches(good));
        }
    }

    /** The dearest calls, with as many violations as there can be, all in one room. */
    private static void room() {
        ThreadMXBean threads = (ThreadMXBean) ManagementFactory.getThreadMXBean();
        long before = threads.getCurrentThreadAllocatedBytes();
        Board board = new Board(1).rule(0, 5).rule(1, 9).rule(5, 0).rule(6, 0);
        for (int i = 0; i < 60; i++) {
            board.add(Board.TRACK, i, 0, 1, 60 - i, 0, 90, 0, 60 - i, 1);
        }
        long built = threads.getCurrentThreadAllocatedBytes();
        int found = 0;
        for (int calls = 4 + 60 * 5; calls < 512; calls += 2) {
            found += board.checks.run(8, calls);
            board.checks.plain();
        }
        long after = threads.getCurrentThreadAllocatedBytes();
        due.is("found", found, 104L * (60 * 59 / 2 + 180));
        due.yes("the room of an object: " + (built - before), built - before < MOST_BYTES);
        due.yes("run and plain make little: " + (after - built), after - built < MOST_BYTES / 100);
    }
}
