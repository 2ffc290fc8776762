import java.io.File;
import java.io.IOException;
import java.lang.reflect.Field;
import java.lang.reflect.Method;
import java.lang.reflect.Modifier;
import java.nio.charset.StandardCharsets;
import java.nio.file.Files;
import java.nio.file.Path;
import java.util.Comparator;
import java.util.HashSet;
import java.util.List;
import java.util.Set;
import java.util.regex.Matcher;
import java.util.regex.Pattern;
import java.util.stream.Stream;

/** README.md: its lines are run as they stand there, in a folder beside which nothing is left. */
final class ReadmeTest {
    private static final Pattern BLOCK = Pattern.compile("(?ms)^```(\\w*)\\n(.*?)^```$");
    private static final Pattern QUOTED = Pattern.compile("`([^`\\n]+)`");

    private ReadmeTest() {
    }

    public static void main(String[] args) throws IOException, InterruptedException {
        String page = Files.readString(Path.of("README.md"));
        Path room = Files.createTempDirectory("readme");
        try {
            runBlocks(page, checkoutIn(room));
        } finally {
            remove(room);
        }
        Set<String> quoted = quoted(page);
        callsAreNamed(quoted);
        testsAreNamed(quoted);
        Check.same(".ci/run is shown", page.contains("\n.ci/run\n"), true);
        Check.same(".ci/run can be run", new File(".ci/run").canExecute(), true);
        Check.end();
    }

    /** A folder with the sources, beside which stands ../shared. */
    private static Path checkoutIn(Path room) throws IOException {
        Path main = Files.createDirectory(room.resolve("main"));
        Files.createSymbolicLink(main.resolve("src"), Path.of("src").toRealPath());
        Files.createSymbolicLink(room.resolve("shared"), Path.of("../shared").toRealPath());
        Files.createDirectory(main.resolve("build"));
        return main;
    }

    private static void remove(Path room) throws IOException {
        try (Stream<Path> all = Files.walk(room)) {
            for (Path path : all.sorted(Comparator.reverseOrder()).toList()) {
                Files.delete(path);
            }
        }
    }

    private static void runBlocks(String page, Path main) throws IOException, InterruptedException {
        int programs = 0;
        int runs = 0;
        int answers = 0;
        String printed = "";
        Matcher blocks = BLOCK.matcher(page);
        while (blocks.find()) {
            String text = blocks.group(2);
            switch (blocks.group(1)) {
                case "java" -> {
                    programs++;
                    Files.writeString(main.resolve("build/Example.java"), text);
                }
                case "sh" -> {
                    runs++;
                    printed = run(text, main);
                }
                case "text" -> {
                    answers++;
                    Check.same("prints what the page says: " + printed, printed.equals(text), true);
                }
                default -> Check.same("shown, and run by whoever runs this: " + text, text.equals(".ci/run\n"), true);
            }
        }
        Check.same("programs", programs, 1);
        Check.same("runs", runs, 2);
        Check.same("answers", answers, 1);
    }

    private static String run(String lines, Path main) throws IOException, InterruptedException {
        Process process = new ProcessBuilder("sh", "-e", "-c", lines)
                .directory(main.toFile()).redirectError(ProcessBuilder.Redirect.INHERIT).start();
        process.getOutputStream().close();
        String printed = new String(process.getInputStream().readAllBytes(), StandardCharsets.UTF_8);
        int code = process.waitFor();
        Check.same("exit code of\n" + lines + printed, code, 0);
        return printed;
    }

    private static Set<String> quoted(String page) {
        Set<String> quoted = new HashSet<>();
        Matcher words = QUOTED.matcher(BLOCK.matcher(page).replaceAll(""));
        while (words.find()) {
            quoted.add(words.group(1));
        }
        return quoted;
    }

    private static void callsAreNamed(Set<String> quoted) {
        for (Method method : WharfQuery.class.getDeclaredMethods()) {
            if (Modifier.isPublic(method.getModifiers())) {
                Check.same("names " + method.getName(), quoted.contains(method.getName()), true);
            }
        }
        for (Field field : WharfQuery.class.getFields()) {
            Check.same("names " + field.getName(), quoted.contains(field.getName()), true);
        }
    }

    private static void testsAreNamed(Set<String> quoted) {
        Set<String> tests = new HashSet<>();
        String[] files = new File("src/test/java").list();
        for (String file : files == null ? new String[0] : files) {
            if (file.endsWith("Test.java")) {
                tests.add(file.substring(0, file.length() - ".java".length()));
            }
        }
        for (String test : tests) {
            Check.same("names " + test, quoted.contains(test), true);
        }
        for (String word : List.copyOf(quoted)) {
            if (word.matches("\\w+Test")) {
                Check.same("there is a " + word, tests.contains(word), true);
            }
        }
    }
}
