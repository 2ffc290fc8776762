import java.io.IOException;
import java.nio.file.Files;
import java.nio.file.Path;
import java.util.regex.Pattern;

/** What ../shared/LANGUAGE.md rules out and a look at the text can find. */
final class LanguageTest {
    private static final String[] RULED_OUT = {
        "^package ", "^import ", "->", "::", "\\bfinally\\b", "\\bsynchronized\\b", "\\bassert\\b",
        "\\btry\\b", "\\bcatch\\b", "\\bstatic \\{", "Exact\\(", "\\bextends \\w*Exception\\b",
        "\\bSystem\\.(in|out|err|exit|nanoTime|currentTimeMillis)\\b", "\\bThread\\b", "\\bObject\\b",
        "\\b(equals|hashCode|toString)\\(", "\\" + "\" \\+", "\\+ \\" + "\"", "\\bvar\\b",
    };

    private LanguageTest() {
    }

    public static void main(String[] args) throws IOException {
        String program = Files.readString(Path.of("src/main/java/WharfQuery.java"));
        String code = program.replaceAll("(?s)/\\*.*?\\*/", "").replaceAll("//[^\n]*", "");
        for (String ruledOut : RULED_OUT) {
            boolean found = Pattern.compile(ruledOut, Pattern.MULTILINE).matcher(code).find();
            Check.same("the program holds " + ruledOut, found, false);
        }
        Check.same("signs above 127", program.chars().anyMatch(sign -> sign > 127), false);
        for (Class<?> inside : WharfQuery.class.getDeclaredClasses()) {
            int modifiers = inside.getModifiers();
            Check.same(inside + " is static", java.lang.reflect.Modifier.isStatic(modifiers), true);
            Check.same(inside + " is public", java.lang.reflect.Modifier.isPublic(modifiers), false);
            Check.same(inside + " has some twenty fields", inside.getDeclaredFields().length <= 20, true);
        }
        Check.same("some twelve classes", WharfQuery.class.getDeclaredClasses().length < 12, true);
        Check.end();
    }
}
