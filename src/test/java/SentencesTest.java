import java.io.IOException;
import java.nio.file.Files;
import java.nio.file.Path;
import java.util.ArrayList;
import java.util.LinkedHashMap;
import java.util.List;
import java.util.Map;
import java.util.regex.Matcher;
import java.util.regex.Pattern;

/**
 * Each sentence that a test names stands in the document, and each sentence of the terms and the
 * promises has a test that names it. It runs behind all others.
 */
final class SentencesTest {
    private static final Pattern WORDS = Pattern.compile("[^\0]*[A-Za-z0-9][^\0]*");

    private SentencesTest() {
    }

    static void run() throws IOException {
        Map<String, String> sections = sections();
        Check.that("each sentence that is tested stands in the document");
        Check.sentences().forEach((section, sentences) -> sentences.forEach(sentence ->
                Check.holds(sections.getOrDefault(section, "").contains(sentence),
                        section + " does not say: " + sentence)));
        Check.that("each sentence of the document is tested");
        Check.holds(sections.size() == 7 + 23, "the sections are " + sections.keySet());
        sections.forEach((section, text) -> untested(section, text).forEach(words ->
                Check.holds(false, section + " says, and no test names: " + words)));
    }

    /** The parts of the terms and the promises by their names, each in one line. */
    private static Map<String, String> sections() throws IOException {
        Map<String, String> sections = new LinkedHashMap<>();
        String section = "";
        for (String line : Files.readAllLines(Path.of("../shared/DOC.md"))) {
            if (line.startsWith("## ")) {
                boolean isPromise = line.startsWith("## Promise ");
                section = isPromise ? line.substring(3, line.indexOf(':')) : "";
            } else if (line.matches("[A-Z][A-Z, ]+")) {
                section = line;
            } else if (!section.isEmpty() && !line.isBlank()) {
                sections.merge(section, line, (above, below) -> above + " " + below);
            }
        }
        return sections;
    }

    private static List<String> untested(String section, String text) {
        String rest = text;
        for (String sentence : Check.sentences().getOrDefault(section, List.of())) {
            int start = text.indexOf(sentence);
            if (start >= 0) {
                int end = start + sentence.length();
                rest = rest.substring(0, start) + "\0".repeat(end - start) + rest.substring(end);
            }
        }
        List<String> all = new ArrayList<>();
        for (Matcher words = WORDS.matcher(rest); words.find();) {
            all.add(words.group().strip());
        }
        return all;
    }
}
