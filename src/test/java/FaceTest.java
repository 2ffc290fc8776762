import java.io.IOException;
import java.lang.reflect.Constructor;
import java.lang.reflect.Field;
import java.lang.reflect.Method;
import java.lang.reflect.Modifier;
import java.nio.file.Files;
import java.nio.file.Path;
import java.util.ArrayList;
import java.util.HashSet;
import java.util.List;
import java.util.Set;
import java.util.regex.Matcher;
import java.util.regex.Pattern;

/** The class shows the members that the document's face tells, and no others. */
final class FaceTest {
    private FaceTest() {
    }

    public static void main(String[] args) throws IOException {
        constants();
        methods();
        hiddenMembers();
        partsOfTheInterface();
        Check.end();
    }

    private static void constants() {
        Check.same("NONE", WharfQuery.NONE, -1);
        Check.same("SAME", WharfQuery.SAME, 0);
        Check.same("LESS", WharfQuery.LESS, 1);
        Check.same("MORE", WharfQuery.MORE, 2);
    }

    private static void methods() throws IOException {
        Set<String> due = dueMethods();
        Set<String> got = new HashSet<>();
        for (Method method : WharfQuery.class.getDeclaredMethods()) {
            if (Modifier.isPublic(method.getModifiers())) {
                got.add(described(method));
            }
        }
        for (String method : due) {
            if (!got.contains(method)) {
                Check.wrongBecause("not there: " + method);
            }
        }
        for (String method : got) {
            if (!due.contains(method)) {
                Check.wrongBecause("not asked for: " + method);
            }
        }
        Check.same("methods of the face", due.size(), 37);
    }

    private static Set<String> dueMethods() throws IOException {
        String document = Files.readString(Path.of("../shared/DOC.md"));
        String face = document.substring(document.indexOf("```java"), document.indexOf("## Terms"));
        Matcher matcher = Pattern.compile("public (\\w+) (\\w+)\\(([^)]*)\\)( throws [^;]*)?;").matcher(face);
        Set<String> due = new HashSet<>();
        while (matcher.find()) {
            String types = matcher.group(3).replaceAll(" \\w+(,|$)", "$1");
            String thrown = matcher.group(4) == null ? "" : matcher.group(4);
            due.add(matcher.group(1) + " " + matcher.group(2) + "(" + types + ")" + thrown);
        }
        return due;
    }

    private static String described(Method method) {
        List<String> types = new ArrayList<>();
        for (Class<?> type : method.getParameterTypes()) {
            types.add(type.getSimpleName());
        }
        List<String> thrown = new ArrayList<>();
        for (Class<?> type : method.getExceptionTypes()) {
            thrown.add(type.getSimpleName());
        }
        return method.getReturnType().getSimpleName() + " " + method.getName()
                + "(" + String.join(", ", types) + ")"
                + (thrown.isEmpty() ? "" : " throws " + String.join(", ", thrown));
    }

    private static void hiddenMembers() {
        Set<String> constants = Set.of("NONE", "SAME", "LESS", "MORE");
        for (Field field : WharfQuery.class.getDeclaredFields()) {
            boolean isShown = !Modifier.isPrivate(field.getModifiers());
            Check.same("shows field " + field.getName(), isShown, constants.contains(field.getName()));
            if (isShown) {
                int constant = Modifier.PUBLIC | Modifier.STATIC | Modifier.FINAL;
                Check.same("modifiers of " + field.getName(), field.getModifiers(), constant);
                Check.same(field.getName() + " is an int", field.getType() == int.class, true);
            }
        }
        Set<String> shown = new HashSet<>();
        Set<String> hidden = new HashSet<>();
        for (Method method : WharfQuery.class.getDeclaredMethods()) {
            boolean isPublic = Modifier.isPublic(method.getModifiers());
            (isPublic ? shown : hidden).add(method.getName());
            if (isPublic) {
                Check.same("modifiers of " + method.getName(), method.getModifiers(), Modifier.PUBLIC);
            }
            Check.same("shows " + method.getName(), !Modifier.isPrivate(method.getModifiers()), isPublic);
        }
        for (String name : hidden) {
            Check.same("a private method bears a public name: " + name, shown.contains(name), false);
        }
        for (Constructor<?> constructor : WharfQuery.class.getDeclaredConstructors()) {
            Check.same("parameters of the constructor", constructor.getParameterCount(), 0);
            Check.same("shows the constructor", Modifier.isPublic(constructor.getModifiers()), true);
        }
        Check.same("is public and final", WharfQuery.class.getModifiers() & (Modifier.PUBLIC | Modifier.FINAL),
                Modifier.PUBLIC | Modifier.FINAL);
    }

    /** "Ahead of the calls .. the interface says: ---- .." */
    private static void partsOfTheInterface() throws IOException {
        String document = Files.readString(Path.of("../shared/DOC.md"));
        String program = Files.readString(Path.of("src/main/java/WharfQuery.java"));
        Matcher parts = Pattern.compile("Ahead of the calls (.*) the interface says: (---- [a-z ]+)\\.").matcher(document);
        int found = 0;
        while (parts.find()) {
            found++;
            int begin = program.indexOf("// " + parts.group(2) + "\n");
            int end = program.indexOf("// ----", begin + 1);
            Check.same("says " + parts.group(2), begin >= 0 && end > begin, true);
            Matcher names = Pattern.compile("`(\\w+)`").matcher(parts.group(1));
            while (names.find()) {
                Matcher call = Pattern.compile("public \\w+ " + names.group(1) + "\\(").matcher(program);
                boolean isInside = call.find() && call.start() > begin && call.start() < end;
                Check.same(names.group(1) + " stands behind " + parts.group(2), isInside, true);
            }
        }
        Check.same("parts of the interface", found, 5);
    }
}
