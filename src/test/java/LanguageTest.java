import java.io.IOException;
import java.lang.reflect.Constructor;
import java.lang.reflect.Executable;
import java.lang.reflect.Field;
import java.lang.reflect.Method;
import java.lang.reflect.Modifier;
import java.nio.file.Files;
import java.nio.file.Path;
import java.util.ArrayList;
import java.util.HashSet;
import java.util.List;
import java.util.Set;
import java.util.regex.Matcher;
import java.util.regex.Pattern;

/** What ../shared/LANGUAGE.md rules out and a look at the text or at the classes can find. */
final class LanguageTest {
    private static final String[] RULED_OUT = {
        "^package ", "^import ", "->", "::", "\\bfinally\\b", "\\bsynchronized\\b", "\\bassert\\b",
        "\\btry\\b", "\\bcatch\\b", "\\bstatic \\{", "Exact\\(", "\\bextends \\w*Exception\\b",
        "\\bSystem\\.(in|out|err|exit|nanoTime|currentTimeMillis)\\b", "\\bThread\\b", "\\bObject\\b",
        "\\b(equals|hashCode|toString)\\(", "\\" + "\" \\+", "\\+ \\" + "\"", "\\bvar\\b",
    };
    // Rule 4 lists functions of these classes, and none of their constants.
    private static final Set<String> LIBRARY = Set.of(
            "Math.max", "Math.min", "Math.abs", "Math.floorDiv", "Math.floorMod",
            "Integer.compare", "Integer.max", "Integer.min", "Integer.bitCount",
            "Long.compare", "Long.max", "Long.min", "Long.bitCount",
            "System.arraycopy", "Arrays.copyOf", "Arrays.copyOfRange", "Arrays.fill", "List.of");
    private static final Set<String> EXCEPTIONS = Set.of(
            "IllegalStateException", "IllegalArgumentException", "IndexOutOfBoundsException", "ArithmeticException",
            "UnsupportedOperationException", "NoSuchElementException", "RuntimeException");
    private static final Set<String> OTHER_TYPES = Set.of(
            "String", "StringBuilder", "Integer", "Long", "Math", "System", "Arrays", "ArrayList", "List",
            "Iterator", "Iterable", "Comparable");
    private static final Set<Class<?>> CONSTANT_TYPES = Set.of(
            int.class, long.class, boolean.class, char.class, String.class);
    private static final int MOST_PARAMETERS = 7, MOST_LINES = 60, MOST_FIELDS = 20, MOST_CLASSES = 12;

    private static final List<Class<?>> CLASSES = new ArrayList<>();

    private LanguageTest() {
    }

    public static void main(String[] args) throws IOException {
        String program = Files.readString(Path.of("src/main/java/WharfQuery.java"));
        String code = program.replaceAll("(?s)/\\*.*?\\*/", "").replaceAll("//[^\n]*", "");
        CLASSES.add(WharfQuery.class);
        CLASSES.addAll(List.of(WharfQuery.class.getDeclaredClasses()));
        ruledOut(code);
        Check.same("signs above 127", program.chars().anyMatch(sign -> sign > 127), false);
        typesAndLibrary(code.replaceAll("\"[^\"\n]*\"", "\"\""));
        thrown(code);
        lengths(code);
        classesInside();
        members();
        namesOfTheFace();
        Check.end();
    }

    private static void ruledOut(String code) {
        for (String ruledOut : RULED_OUT) {
            boolean found = Pattern.compile(ruledOut, Pattern.MULTILINE).matcher(code).find();
            Check.same("the program holds " + ruledOut, found, false);
        }
    }

    /** Rules 3 and 4. */
    private static void typesAndLibrary(String code) {
        Set<String> types = new HashSet<>(OTHER_TYPES);
        types.addAll(EXCEPTIONS);
        for (Class<?> own : CLASSES) {
            types.add(own.getSimpleName());
        }
        Matcher names = Pattern.compile("\\b[A-Z]\\w*[a-z]\\w*\\b").matcher(code);
        while (names.find()) {
            Check.same("is a type of the language: " + names.group(), types.contains(names.group()), true);
        }
        Matcher uses = Pattern.compile("\\b[A-Z]\\w*[a-z]\\w*\\.\\w+").matcher(code);
        while (uses.find()) {
            Check.same("is of the library: " + uses.group(), LIBRARY.contains(uses.group()), true);
        }
    }

    /** Rule 6. */
    private static void thrown(String code) {
        Matcher throwing = Pattern.compile("\\bthrow\\b([^;]*);").matcher(code);
        Pattern written = Pattern.compile(" new (\\w+)\\((\"[^\"]*\")?\\)");
        while (throwing.find()) {
            Matcher made = written.matcher(throwing.group(1));
            boolean isWritten = made.matches() && EXCEPTIONS.contains(made.group(1));
            Check.same("throws as rule 6 says: " + throwing.group(), isWritten, true);
        }
    }

    /** Rule 11: a method begins at a line that ends with a brace and is set in by one or two levels. */
    private static void lengths(String code) {
        int begin = 0;
        String[] lines = code.split("\n");
        for (int i = 0; i < lines.length; i++) {
            if (lines[i].matches("( {4}| {8})(?! |if|for|while|switch|\\}|private static final class).*")
                    && lines[i].contains("(")) {
                begin = i;
            }
            if (lines[i].matches("( {4}| {8})\\}")) {
                Check.same("is short: " + lines[begin].trim(), i - begin < MOST_LINES, true);
            }
        }
    }

    /** Rules 2 and 11. */
    private static void classesInside() {
        for (Class<?> inside : WharfQuery.class.getDeclaredClasses()) {
            int modifiers = inside.getModifiers();
            Check.same(inside + " is static", Modifier.isStatic(modifiers), true);
            Check.same(inside + " is public", Modifier.isPublic(modifiers), false);
            Check.same(inside + " is protected", Modifier.isProtected(modifiers), false);
        }
        Check.same("some twelve classes", CLASSES.size() <= MOST_CLASSES, true);
    }

    /** Rules 3, 5 and 11. */
    private static void members() {
        for (Class<?> one : CLASSES) {
            int fields = 0;
            for (Field field : one.getDeclaredFields()) {
                boolean isStatic = Modifier.isStatic(field.getModifiers());
                fields += isStatic ? 0 : 1;
                boolean isConstant = Modifier.isFinal(field.getModifiers()) && CONSTANT_TYPES.contains(field.getType());
                Check.same(field + " is a constant, or not static", isConstant || !isStatic, true);
            }
            Check.same(one + " has some twenty fields", fields <= MOST_FIELDS, true);
            List<Executable> calls = new ArrayList<>(List.of(one.getDeclaredMethods()));
            calls.addAll(List.of(one.getDeclaredConstructors()));
            for (Executable call : calls) {
                Check.same(call + " takes seven at most", call.getParameterCount() <= MOST_PARAMETERS, true);
            }
        }
    }

    /** Rule 1. */
    private static void namesOfTheFace() {
        Set<String> face = new HashSet<>();
        for (Method method : WharfQuery.class.getMethods()) {
            face.add(method.getName());
        }
        for (Class<?> one : CLASSES) {
            for (Method method : one.getDeclaredMethods()) {
                boolean isHidden = one != WharfQuery.class || !Modifier.isPublic(method.getModifiers());
                Check.same(method + " bears a name of the face", isHidden && face.contains(method.getName()), false);
            }
            for (Constructor<?> constructor : one.getDeclaredConstructors()) {
                boolean isShown = Modifier.isPublic(constructor.getModifiers());
                Check.same("shows " + constructor, isShown, one == WharfQuery.class);
            }
        }
    }
}
