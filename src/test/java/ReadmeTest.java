import java.io.IOException;
import java.lang.reflect.Method;
import java.lang.reflect.Modifier;
import java.nio.file.Files;
import java.nio.file.Path;
import java.util.regex.Matcher;
import java.util.regex.Pattern;

/** The README: its example answers what it says, and it tells of each call. */
final class ReadmeTest {
    private static final Pattern TYPED = Pattern.compile("\"(.*)\"\\.toCharArray\\(\\)");
    private static final Pattern CALL = Pattern.compile("board\\.(.*\\)); *// (-?\\d+): .*");

    private ReadmeTest() {
    }

    static void run() throws IOException {
        String readme = Files.readString(Path.of("README.md"));
        example(readme.split("```java\n")[1].split("```")[0]);
        calls(readme);
    }

    private static void example(String program) {
        Check.that("README.md tells what its example answers");
        Board board = new Board();
        Matcher typed = TYPED.matcher(program);
        Check.holds(typed.find(), "the example types no text");
        board.text(typed.group(1));
        Matcher calls = CALL.matcher(program);
        int found = 0;
        while (calls.find()) {
            board.due(calls.group(1), Integer.parseInt(calls.group(2)));
            found++;
        }
        Check.holds(found > 4, "the example has " + found + " calls with their answers");
    }

    private static void calls(String readme) {
        Check.that("README.md tells of each call");
        for (Method method : LentSounds.class.getDeclaredMethods()) {
            Check.holds(!Modifier.isPublic(method.getModifiers())
                    || readme.contains("`" + method.getName() + "`"),
                    method.getName() + " is not told");
        }
    }
}
