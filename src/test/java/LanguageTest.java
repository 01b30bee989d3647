import java.io.IOException;
import java.lang.reflect.Constructor;
import java.lang.reflect.Field;
import java.lang.reflect.Method;
import java.lang.reflect.Modifier;
import java.nio.file.Files;
import java.nio.file.Path;
import java.util.Arrays;
import java.util.Set;
import java.util.TreeSet;

/** The document's face, and what a program can see of LANGUAGE.md's rules 1, 4, 5, 6 and 11. */
public final class LanguageTest {
    private static final Due due = new Due("LanguageTest");
    private static final String INDEX = "IndexOutOfBoundsException";
    private static final String STATE = "IllegalStateException";
    private static final String ARGUMENT = "IllegalArgumentException";

    private static final String[] FACE = {
        "int shape(int, int, int) " + INDEX + " " + ARGUMENT,
        "boolean corner(int, long, long) " + INDEX + " " + STATE + " " + ARGUMENT,
        "boolean closeShape(int, long) " + INDEX + " " + STATE + " " + ARGUMENT,
        "int rule(int, int, int, long) " + ARGUMENT,
        "boolean cls(int, int) " + INDEX + " " + ARGUMENT,
        "int run(int, long) " + ARGUMENT,
        "int violation(int, int) " + INDEX,
        "long place(int, int) " + INDEX,
        "boolean waive(int) " + INDEX,
        "int near(long, long, long, long) " + ARGUMENT,
        "boolean move(int, long, long) " + INDEX,
        "boolean plain()",
        "int kinds()",
        "int order(int) " + INDEX,
        "int strips(int) " + ARGUMENT,
    };

    public static void main(String[] args) throws IOException {
        face();
        hiddenMembers();
        staticFields();
        source(Files.readString(Path.of("src/main/java/CleanChecks.java")));
        due.end();
    }

    private static void face() {
        Set<String> seen = new TreeSet<>();
        for (Method method : CleanChecks.class.getDeclaredMethods()) {
            if (!Modifier.isPrivate(method.getModifiers())) {
                due.yes("public and not static: " + method, method.getModifiers() == Modifier.PUBLIC);
                seen.add(told(method));
            }
        }
        due.yes("the methods " + seen, seen.equals(new TreeSet<>(Arrays.asList(FACE))));
        int modifiers = CleanChecks.class.getModifiers();
        due.yes("public final class", Modifier.isPublic(modifiers) && Modifier.isFinal(modifiers));
        Constructor<?>[] made = CleanChecks.class.getDeclaredConstructors();
        due.yes("one constructor of an int", made.length == 1 && made[0].getModifiers() == Modifier.PUBLIC
                && Arrays.equals(made[0].getParameterTypes(), new Class<?>[] {int.class}));
    }

    private static String told(Method method) {
        StringBuilder text = new StringBuilder(method.getReturnType().getSimpleName());
        String types = Arrays.toString(Arrays.stream(method.getParameterTypes()).map(Class::getSimpleName).toArray());
        text.append(' ').append(method.getName()).append('(').append(types, 1, types.length() - 1).append(')');
        for (Class<?> thrown : method.getExceptionTypes()) {
            text.append(' ').append(thrown.getSimpleName());
        }
        return text.toString();
    }

    private static void hiddenMembers() {
        Set<String> names = new TreeSet<>();
        for (String method : FACE) {
            names.add(method.substring(method.indexOf(' ') + 1, method.indexOf('(')));
        }
        for (Class<?> inner : CleanChecks.class.getDeclaredClasses()) {
            int modifiers = inner.getModifiers();
            due.yes("private static: " + inner, Modifier.isPrivate(modifiers) && Modifier.isStatic(modifiers));
            for (Method method : inner.getDeclaredMethods()) {
                due.no("a name of the face: " + method, names.contains(method.getName()));
                due.yes("seven parameters at most: " + method, method.getParameterCount() <= 7);
            }
        }
        for (Method method : CleanChecks.class.getDeclaredMethods()) {
            boolean hidden = Modifier.isPrivate(method.getModifiers());
            due.no("a name of the face: " + method, hidden && names.contains(method.getName()));
        }
    }

    private static void staticFields() {
        for (Field field : CleanChecks.class.getDeclaredFields()) {
            int modifiers = field.getModifiers();
            boolean none = field.getName().equals("NONE");
            due.yes("public is NONE alone: " + field, none == Modifier.isPublic(modifiers));
            due.yes("private but for NONE: " + field, none != Modifier.isPrivate(modifiers));
            due.yes("static ones are final: " + field, !Modifier.isStatic(modifiers) || Modifier.isFinal(modifiers));
        }
    }

    private static void source(String text) {
        String[] ruledOut = {"->", "::", "catch", "finally", "synchronized", "assert", "Exact(", "instanceof",
            "static {", "package ", "System.", "Thread", "Random", "double", "float", "toString", "hashCode"};
        for (String word : ruledOut) {
            due.no("the program has " + word, text.contains(word));
        }
        long imports = text.lines().filter(line -> line.startsWith("import ")).count();
        due.is("imports", imports, 1);
        due.yes("of ArrayList", text.contains("import java.util.ArrayList;"));
        due.yes("characters 0 to 255", text.chars().allMatch(c -> c < 256));
    }
}
