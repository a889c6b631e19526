import java.lang.reflect.InvocationTargetException;
import java.lang.reflect.Method;
import java.lang.reflect.Modifier;
import java.util.HashMap;
import java.util.Map;

/**
 * A new board under test. Its calls are told as text, and counted; each answer is compared with
 * that of the plain board, and with the one that is due, if one is told.
 */
final class Board {
    /** What later calls answer is free, so that no test may make them. */
    static final int LAST_CALL = 512;

    private static final Map<String, Method> LENT_CALLS = callsOf(LentSounds.class);
    private static final Map<String, Method> PLAIN_CALLS = callsOf(PlainBoard.class);
    private static final Map<String, Integer> ERRORS = Map.of("UNKNOWN", -1, "BAD_VALUE", -2,
            "FULL", -3, "NOT_POSSIBLE", -4, "NONE", -5);

    private final LentSounds lent = new LentSounds();
    private final PlainBoard plain = new PlainBoard();
    private int calls = 0;

    private static Map<String, Method> callsOf(Class<?> face) {
        Map<String, Method> all = new HashMap<>();
        for (Method method : face.getDeclaredMethods()) {
            if (!Modifier.isPrivate(method.getModifiers())) {
                all.put(method.getName(), method);
            }
        }
        return all;
    }

    /**
     * Makes a run of calls, one a line:
     * "send(0, 4) = 0", a call and the answer that is due, as a number or a constant's name;
     * "send(0, 4)", a call alone; "text 0@1s1", the text from now on; "read 0@1s1 = 1", the same
     * and readCues(); "cues = 0@1s1*1", all cues that are there, in their order.
     */
    Board runs(String script) {
        for (String line : script.split("\n")) {
            if (!line.isBlank()) {
                runLine(line.strip());
            }
        }
        return this;
    }

    private void runLine(String line) {
        String[] sides = line.split(" = ?", 2);
        if (sides[0].startsWith("text ")) {
            text(sides[0].substring(5));
        } else if (sides[0].startsWith("read ")) {
            due("readCues()", read(sides[0].substring(5)), sides);
        } else if (sides[0].equals("cues")) {
            cuesAre(sides[1]);
        } else {
            due(sides[0], ask(sides[0]), sides);
        }
    }

    private static void due(String call, int got, String[] sides) {
        if (sides.length > 1) {
            Integer error = ERRORS.get(sides[1]);
            Check.due(call, got, error != null ? error : Integer.parseInt(sides[1]));
        }
    }

    Board due(String call, int want) {
        Check.due(call, ask(call), want);
        return this;
    }

    /** Makes a call that is told as in a program: "send(0, 4)". */
    int ask(String call) {
        calls++;
        Check.holds(calls <= LAST_CALL, "the test makes more than " + LAST_CALL + " calls");
        int open = call.indexOf('(');
        String name = call.substring(0, open);
        String[] numbers = call.substring(open + 1, call.length() - 1).split(", ");
        int got = answer(LENT_CALLS.get(name), lent, numbers);
        int plainly = answer(PLAIN_CALLS.get(name), plain, numbers);
        if (got != plainly) {
            Check.holds(false, call + " answered " + got + ", the plain board " + plainly);
        }
        return got;
    }

    private static int answer(Method method, Object on, String[] numbers) {
        Class<?>[] types = method.getParameterTypes();
        Object[] arguments = new Object[types.length];
        for (int i = 0; i < types.length; i++) {
            int number = Integer.parseInt(numbers[i]);
            if (types[i] == char.class) {
                arguments[i] = (char) number;
            } else {
                arguments[i] = number;
            }
        }
        try {
            return (int) method.invoke(on, arguments);
        } catch (InvocationTargetException thrown) {
            Check.holds(false, method.getName() + " threw " + thrown.getCause());
            return Integer.MIN_VALUE;
        } catch (IllegalAccessException closed) {
            throw new IllegalStateException(closed);
        }
    }

    int calls() {
        return calls;
    }

    void text(String text) {
        ask("clearText()");
        for (char character : text.toCharArray()) {
            ask("type(" + (int) character + ")");
        }
    }

    int read(String text) {
        text(text);
        return ask("readCues()");
    }

    /** Ten cues a text, each at the tick 0: the scene 0 has ten of them, then the scene 1, .. */
    Board fill(int cues) {
        StringBuilder text = new StringBuilder();
        for (int cue = 0; cue < cues; cue++) {
            text.append(cue / 10).append("@0s").append(cue % 10);
            if (cue % 10 == 9 || cue == cues - 1) {
                Check.due("readCues()", read(text.toString()), cue + 1);
                text.setLength(0);
            } else {
                text.append(',');
            }
        }
        return this;
    }

    private void cuesAre(String want) {
        String are = cues();
        Check.holds(are.equals(want), "the cues are " + are + ", due are " + want);
    }

    private String cues() {
        StringBuilder all = new StringBuilder();
        int size = ask("count(0)");
        for (int cue = 0; cue < size; cue++) {
            all.append(cue == 0 ? "" : ",").append(ask("cue(" + cue + ", 0)"))
                    .append('@').append(ask("cue(" + cue + ", 1)"))
                    .append('s').append(ask("cue(" + cue + ", 2)"))
                    .append('*').append(ask("cue(" + cue + ", 3)"));
        }
        return all.toString();
    }

    /** All that a state is, in some fifty calls if there are few cues. */
    String state() {
        StringBuilder all = new StringBuilder("counts");
        for (int what = 1; what < 7; what++) {
            all.append(' ').append(ask("count(" + what + ")"));
        }
        all.append(", sounds");
        for (int sound = 0; sound < 10; sound++) {
            for (int what = 0; what < 3; what++) {
                all.append(' ').append(ask("sound(" + sound + ", " + what + ")"));
            }
        }
        all.append(", hands");
        int hands = ask("count(1)");
        for (int hand = 0; hand < hands; hand++) {
            all.append(' ').append(ask("hand(" + hand + ", 0)"));
        }
        return all.append(", cues ").append(cues()).toString();
    }

    /** All that a board is: its state, text, history and snapshot; the board is used up by it. */
    String everything() {
        StringBuilder all = new StringBuilder(state());
        all.append("\ntext of ").append(ask("count(11)"));
        int left = ask("count(10)");
        all.append("\nhistory of ").append(left);
        for (; left > 0; left--) {
            all.append("\nundo ").append(ask("undo()")).append(' ').append(state());
        }
        all.append("\nrestore ").append(ask("restore()")).append(' ').append(state());
        return all.append("\nread ").append(ask("readCues()")).append(' ').append(cues())
                .toString();
    }
}
