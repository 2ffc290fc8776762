import java.io.IOException;
import java.io.UncheckedIOException;
import java.nio.file.Files;
import java.nio.file.Path;
import java.util.ArrayList;
import java.util.HashMap;
import java.util.List;
import java.util.Map;

/** The document's own words: a test names the ones that it looks at, and leaves none out. */
final class Document {
    private static final String TEXT = read();
    private static final Map<String, List<String>> SAID = new HashMap<>();

    private Document() {
    }

    private static String read() {
        try {
            return Files.readString(Path.of("../shared/DOC.md"));
        } catch (IOException e) {
            throw new UncheckedIOException(e);
        }
    }

    /** What is checked behind this, is checked for these words. */
    static void says(String section, String words) {
        SAID.computeIfAbsent(section, none -> new ArrayList<>()).add(words);
        Check.stateReason(section + ": " + words);
        if (!String.join(" ", sentences(section)).contains(words)) {
            Check.wrongBecause("the document does not say so");
        }
    }

    static void promises(int number, String words) {
        says("Promise " + number, words);
    }

    /** A sentence of the section of which no test has named a part has no test of its own. */
    static void allSaid(String section) {
        Check.stateReason(section);
        List<String> said = SAID.getOrDefault(section, List.of());
        for (String sentence : sentences(section)) {
            if (said.stream().noneMatch(words -> words.contains(bare(sentence)) || sentence.contains(words))) {
                Check.wrongBecause("no test names this sentence: " + sentence);
            }
        }
    }

    static void allPromised(int first, int last) {
        for (int number = first; number <= last; number++) {
            allSaid("Promise " + number);
        }
    }

    private static String bare(String sentence) {
        return sentence.replaceAll("[.;]$", "");
    }

    private static List<String> sentences(String section) {
        List<String> sentences = new ArrayList<>();
        boolean isInside = false;
        for (String line : TEXT.split("\n")) {
            if (line.startsWith("#")) {
                String title = line.replaceFirst("^#+ ", "");
                isInside = title.equals(section) || title.startsWith(section + ":");
            } else if (isInside && !line.isBlank() && !line.startsWith("Ahead of the calls")) {
                String told = line.replaceFirst("^- ", "").replaceFirst("^`[^`]*\\([^`]*\\)[^`]*`: ", "");
                sentences.addAll(List.of(told.split("(?<=[.;]) ")));
            }
        }
        if (sentences.isEmpty()) {
            Check.wrongBecause("the document has no section " + section);
        }
        return sentences;
    }
}
