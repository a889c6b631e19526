import java.io.IOException;
import java.lang.reflect.Field;
import java.lang.reflect.Method;
import java.lang.reflect.Modifier;
import java.nio.file.Files;
import java.nio.file.Path;
import java.util.List;
import java.util.Set;
import java.util.TreeSet;
import java.util.regex.Pattern;

/** The public face of the document, and what LANGUAGE.md forbids by a word or a modifier. */
public final class FaceTest {
    private static final Set<String> CONSTANTS = Set.of("UNKNOWN=-1", "BAD_VALUE=-2", "FULL=-3",
            "NOT_POSSIBLE=-4", "NONE=-5");
    private static final Set<String> METHODS = Set.of("setSound(int,int,int)", "setHands(int)",
            "send(int,int)", "setCarrying(int)", "readCues()", "removeCue(int)", "shift(int,int)",
            "cutScene(int)", "take()", "type(char)", "clearText()", "undo()", "keep()",
            "restore()", "sound(int,int)", "cue(int,int)", "hand(int,int)", "scene(int,int)",
            "missed(int)", "ifHands(int)", "cleanTakes()", "count(int)");
    private static final List<String> FORBIDDEN_WORDS = List.of("throw", "throws", "try", "catch",
            "finally", "synchronized", "assert", "import", "package", "protected", "yield",
            "native", "volatile", "transient");

    public static void main(String[] args) throws Exception {
        constants();
        methods();
        classesInside();
        words();
        Check.finish();
    }

    private static void constants() throws Exception {
        Set<String> seen = new TreeSet<>();
        for (Field field : LentSounds.class.getDeclaredFields()) {
            int modifiers = field.getModifiers();
            if (!Modifier.isPrivate(modifiers)) {
                boolean isConstant = Modifier.isPublic(modifiers) && Modifier.isStatic(modifiers)
                        && Modifier.isFinal(modifiers) && field.getType() == int.class;
                Check.holds(field + " is a constant", isConstant);
                seen.add(field.getName() + "=" + field.getInt(null));
            }
        }
        Check.holds("the constants are those of the document: " + seen, seen.equals(CONSTANTS));
    }

    private static void methods() {
        Set<String> seen = new TreeSet<>();
        Set<String> publicNames = new TreeSet<>();
        METHODS.forEach(method -> publicNames.add(method.substring(0, method.indexOf('('))));
        for (Method method : LentSounds.class.getDeclaredMethods()) {
            if (Modifier.isPrivate(method.getModifiers())) {
                Check.holds(method + " has a name of its own",
                        !publicNames.contains(method.getName()));
            } else {
                Check.holds(method + " is public and answers an int",
                        Modifier.isPublic(method.getModifiers())
                        && !Modifier.isStatic(method.getModifiers())
                        && method.getReturnType() == int.class);
                seen.add(nameAndTypes(method));
            }
        }
        Check.holds("the methods are those of the document: " + seen, seen.equals(METHODS));
        int modifiers = LentSounds.class.getModifiers();
        Check.holds("the class is public and final",
                Modifier.isPublic(modifiers) && Modifier.isFinal(modifiers));
        Check.holds("one constructor, a public one without parameters",
                LentSounds.class.getDeclaredConstructors().length == 1
                && LentSounds.class.getConstructors().length == 1
                && LentSounds.class.getConstructors()[0].getParameterCount() == 0);
    }

    private static String nameAndTypes(Method method) {
        StringBuilder text = new StringBuilder(method.getName()).append('(');
        for (Class<?> type : method.getParameterTypes()) {
            text.append(text.charAt(text.length() - 1) == '(' ? "" : ",").append(type.getName());
        }
        return text.append(')').toString();
    }

    private static void classesInside() {
        Class<?>[] inside = LentSounds.class.getDeclaredClasses();
        Check.holds("at most twelve classes", inside.length <= 12);
        for (Class<?> one : inside) {
            int modifiers = one.getModifiers();
            Check.holds(one + " is private and static",
                    Modifier.isPrivate(modifiers) && Modifier.isStatic(modifiers));
            for (Method method : one.getDeclaredMethods()) {
                Check.holds(method + " has no name of the face", METHODS.stream()
                        .noneMatch(face -> face.startsWith(method.getName() + "(")));
            }
        }
    }

    private static void words() throws IOException {
        String source = Files.readString(Path.of("src/main/java/LentSounds.java"));
        String code = source.replaceAll("(?s)/\\*.*?\\*/", "").replaceAll("//[^\n]*", "");
        for (String word : FORBIDDEN_WORDS) {
            Check.holds("the program is without " + word,
                    !Pattern.compile("\\b" + word + "\\b").matcher(code).find());
        }
        for (String sign : List.of("->", "::", "\"")) {
            Check.holds("the program is without " + sign, !code.contains(sign));
        }
    }
}
