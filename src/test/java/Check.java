/** What all tests share: answers that are due, and boards with cues from a text. */
final class Check {
    static final int UNKNOWN = -1;
    static final int BAD_VALUE = -2;
    static final int FULL = -3;
    static final int NOT_POSSIBLE = -4;
    static final int NONE = -5;

    private static int wrong = 0;

    private Check() {
    }

    static void due(String call, int got, int want) {
        if (got != want) {
            wrong++;
            System.out.println(call + " answered " + got + ", due is " + want);
        }
    }

    static void holds(String what, boolean isSo) {
        if (!isSo) {
            wrong++;
            System.out.println("not so: " + what);
        }
    }

    static int wrongSoFar() {
        return wrong;
    }

    static void finish() {
        if (wrong != 0) {
            System.out.println(wrong + " answers are not as due");
            System.exit(1);
        }
    }

    static void typeAll(LentSounds x, String text) {
        for (char character : text.toCharArray()) {
            x.type(character);
        }
    }

    /** Reads a text of its own, whatever was typed before. */
    static int read(LentSounds x, String text) {
        x.clearText();
        typeAll(x, text);
        return x.readCues();
    }

    static LentSounds board(String... texts) {
        LentSounds x = new LentSounds();
        for (String text : texts) {
            holds("the text " + text + " can be read", read(x, text) > 0);
        }
        x.clearText();
        return x;
    }

    /** The four things that stand written of a cue, as one text. */
    static String cueText(LentSounds x, int cue) {
        return x.cue(cue, 0) + "@" + x.cue(cue, 1) + "s" + x.cue(cue, 2) + "*" + x.cue(cue, 3);
    }

    static void cuesAre(LentSounds x, String want) {
        StringBuilder all = new StringBuilder();
        for (int cue = 0; cue < x.count(0); cue++) {
            all.append(cue == 0 ? "" : ",").append(cueText(x, cue));
        }
        holds("the cues are " + want + " (they are " + all + ")", all.toString().equals(want));
    }
}
