import java.io.IOException;
import java.lang.reflect.Field;
import java.lang.reflect.Method;
import java.lang.reflect.Modifier;
import java.nio.file.Files;
import java.nio.file.Path;
import java.util.List;
import java.util.Map;
import java.util.Set;
import java.util.TreeSet;
import java.util.stream.Collectors;
import java.util.stream.Stream;

/** The public face: the constants, the constructor, the methods, and the headings above them. */
final class FaceTest {
    private static final Set<String> CONSTANTS = Set.of("UNKNOWN=-1", "BAD_VALUE=-2", "FULL=-3",
            "NOT_POSSIBLE=-4", "NONE=-5");

    /** From the second promise on, in their order. */
    private static final List<String> METHODS = List.of("setSound(int sound, int what, int value)",
            "setHands(int hands)", "send(int hand, int shelf)", "setCarrying(int ticks)",
            "readCues()", "removeCue(int cue)", "shift(int scene, int ticks)",
            "cutScene(int scene)", "take()", "type(char character)", "clearText()", "undo()",
            "keep()", "restore()", "sound(int sound, int what)", "cue(int cue, int what)",
            "hand(int hand, int what)", "scene(int scene, int what)", "missed(int rank)",
            "ifHands(int hands)", "cleanTakes()", "count(int what)");

    private static final Map<String, List<String>> HEADINGS = Map.of(
            "sounds, hands, settings", List.of("setSound", "setHands", "send", "setCarrying"),
            "cues", List.of("readCues", "removeCue", "shift", "cutScene"),
            "takes", List.of("take"),
            "texts", List.of("type", "clearText"),
            "history", List.of("undo", "keep", "restore"),
            "what is told", List.of("sound", "cue", "hand", "scene", "missed", "ifHands",
                    "cleanTakes", "count"));

    private FaceTest() {
    }

    static void run() throws ReflectiveOperationException, IOException {
        wholeFace();
        constants();
        constructor();
        methods();
        names();
        headings();
    }

    /** Each line of the document's face stands in the program, in the same order. */
    private static void wholeFace() throws IOException {
        Check.that("the public face is that of the document, line by line");
        String document = Files.readString(Path.of("../shared/DOC.md"));
        String face = document.split("```java\n")[1].split("```")[0];
        List<String> due = face.lines().map(FaceTest::plain).toList();
        List<String> is = Files.readString(Path.of("src/main/java/LentSounds.java")).lines()
                .map(FaceTest::plain).filter(line -> line.startsWith("public ")).toList();
        Check.holds(due.size() == 30 && due.get(0).equals("public final class LentSounds"),
                "the document's face has " + due.size() + " lines");
        Check.holds(is.equals(due.subList(0, due.size() - 1)), "it is " + is);
    }

    private static String plain(String line) {
        return line.replaceAll("[;{]", "").strip();
    }

    private static void constants() throws IllegalAccessException {
        Check.that("the constants are those of the document");
        Set<String> seen = new TreeSet<>();
        for (Field field : LentSounds.class.getDeclaredFields()) {
            int modifiers = field.getModifiers();
            if (!Modifier.isPrivate(modifiers)) {
                Check.holds(Modifier.isPublic(modifiers) && Modifier.isStatic(modifiers)
                        && Modifier.isFinal(modifiers) && field.getType() == int.class,
                        field + " is no constant");
                seen.add(field.getName() + "=" + field.getInt(null));
            }
        }
        Check.holds(seen.equals(CONSTANTS), "they are " + seen);
    }

    private static void constructor() {
        Check.of("Promise 1", "`LentSounds()`:");
        int modifiers = LentSounds.class.getModifiers();
        Check.holds(Modifier.isPublic(modifiers) && Modifier.isFinal(modifiers),
                "the class is not public and final");
        Check.holds(LentSounds.class.getDeclaredConstructors().length == 1
                && LentSounds.class.getConstructors().length == 1
                && LentSounds.class.getConstructors()[0].getParameterCount() == 0,
                "there is not just one constructor, a public one without parameters");
    }

    private static void methods() {
        Set<String> seen = Stream.of(LentSounds.class.getDeclaredMethods())
                .filter(method -> !Modifier.isPrivate(method.getModifiers()))
                .map(FaceTest::typesOf).collect(Collectors.toCollection(TreeSet::new));
        for (int i = 0; i < METHODS.size(); i++) {
            Check.of("Promise " + (i + 2), "`int " + METHODS.get(i) + "`:");
            String types = METHODS.get(i).replaceAll(" [a-z]+(?=[,)])", "");
            Check.holds(seen.remove("public int " + types), "there is no such method");
        }
        Check.that("the document tells each method that is not private");
        Check.holds(seen.isEmpty(), "it does not tell " + seen);
    }

    private static String typesOf(Method method) {
        String types = Stream.of(method.getParameterTypes()).map(Class::getName)
                .collect(Collectors.joining(", "));
        return Modifier.toString(method.getModifiers()) + " " + method.getReturnType() + " "
                + method.getName() + "(" + types + ")";
    }

    private static void names() {
        Check.that("no private method bears the name of a public one");
        Set<String> names = METHODS.stream().map(method -> method.substring(0, method.indexOf('(')))
                .collect(Collectors.toSet());
        Stream.concat(Stream.of(LentSounds.class), Stream.of(LentSounds.class.getDeclaredClasses()))
                .flatMap(one -> Stream.of(one.getDeclaredMethods()))
                .filter(method -> !Modifier.isPublic(method.getModifiers()))
                .forEach(method -> Check.holds(!names.contains(method.getName()),
                        method + " does"));
    }

    private static void headings() throws IOException {
        String source = Files.readString(Path.of("src/main/java/LentSounds.java"));
        HEADINGS.forEach((heading, calls) -> {
            Check.of("ERRORS", "Ahead of the calls `" + String.join("`, `", calls)
                    + "` the interface says: ---- " + heading + ".");
            int start = source.indexOf("// ---- " + heading + "\n");
            Check.holds(start >= 0, "the program does not say it");
            String below = source.substring(Math.max(start, 0) + 1).split("// ----")[0];
            for (String call : calls) {
                Check.holds(below.contains("public int " + call + "("), call + " is not below");
            }
        });
    }
}
