import java.util.ArrayList;
import java.util.LinkedHashMap;
import java.util.List;
import java.util.Map;

/** What all tests share: the sentence that is tested now, and how much was wrong. */
final class Check {
    private static final int MOST_LINES = 60;

    private static final Map<String, List<String>> SENTENCES = new LinkedHashMap<>();
    private static String now = "";
    private static int tests = 0;
    private static int wrong = 0;

    private Check() {
    }

    /** Begins the test of a sentence, told to the letter, of a section of the document. */
    static Board of(String section, String sentence) {
        SENTENCES.computeIfAbsent(section, s -> new ArrayList<>()).add(sentence);
        now = section + ", \"" + sentence + "\"";
        tests++;
        return new Board();
    }

    /** Begins a test of what is no sentence of the document. */
    static void that(String what) {
        now = what;
        tests++;
    }

    static void holds(boolean isSo, String what) {
        if (!isSo) {
            wrong++;
            if (wrong <= MOST_LINES) {
                System.out.println(now + ": " + what);
            }
        }
    }

    static void due(String call, int got, int want) {
        if (got != want) {
            holds(false, call + " answered " + got + ", due is " + want);
        }
    }

    static Map<String, List<String>> sentences() {
        return SENTENCES;
    }

    static int wrongSoFar() {
        return wrong;
    }

    static void finish() {
        System.out.println(tests + " tests, " + wrong + " answers not as due");
        if (wrong != 0) {
            System.exit(1);
        }
    }
}
