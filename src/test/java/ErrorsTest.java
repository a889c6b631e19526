import java.util.List;

/** Errors (the terms): their constants, the order of the checks, and that they change nothing. */
final class ErrorsTest {
    private static final String ERRORS = "ERRORS";

    /**
     * Four states in the history, a snapshot that differs from the board, three hands at the
     * shelves 3, 1 and 2, two cues of which the take left no charge for the second, and a text.
     */
    private static final String SETTING = """
            read 0@1s1,1@998s3 = 2
            keep() = 2
            setCarrying(3) = 2
            setSound(3, 1, 1) = 5
            setHands(3) = 2
            send(0, 4) = 0
            take() = 0
            """;

    private ErrorsTest() {
    }

    static void run() {
        constants();
        orderOfChecks();
        noneIsLast();
        refusedActsChangeNothing();
        refusedReadingChangesNothing();
        refusedElsewhereChangesNothing();
        tellingChangesNothing();
        wildArguments();
        lastCall();
    }

    private static void constants() {
        Check.of(ERRORS, "Errors are reported by the constants below.");
        Check.due("UNKNOWN", LentSounds.UNKNOWN, -1);
        Check.due("BAD_VALUE", LentSounds.BAD_VALUE, -2);
        Check.due("FULL", LentSounds.FULL, -3);
        Check.due("NOT_POSSIBLE", LentSounds.NOT_POSSIBLE, -4);
        Check.due("NONE", LentSounds.NONE, -5);
        Check.of(ERRORS, "The constants: `UNKNOWN = -1`: There is no such sound, shelf, scene, cue"
                + " or hand.").runs("""
                sound(10, 0) = -1
                send(0, 5) = -1
                scene(6, 0) = -1
                cue(0, 0) = -1
                hand(2, 0) = -1
                """);
        Check.of(ERRORS, "`BAD_VALUE = -2`: Another argument is out of range.").runs("""
                setSound(0, 1, 31) = -2
                setHands(5) = -2
                setCarrying(21) = -2
                shift(0, 100) = -2
                sound(0, 6) = -2
                hand(0, 5) = -2
                scene(0, 5) = -2
                missed(-1) = -2
                ifHands(0) = -2
                count(12) = -2
                """);
        Check.of(ERRORS, "`FULL = -3`: There is no more room.").fill(40)
                .runs("text 5@5s5\n readCues() = -3");
        Check.of(ERRORS, "`NOT_POSSIBLE = -4`: This is not possible.").runs("""
                take() = -4
                cleanTakes() = -4
                read 0@0s0 = 1
                readCues() = -4
                shift(0, -1) = -4
                """);
        Check.of(ERRORS, "`NONE = -5`: There is no such thing; not an error.").runs("""
                undo() = -5
                restore() = -5
                missed(0) = -5
                scene(0, 1) = -5
                setHands(2) = -5
                """);
    }

    private static void orderOfChecks() {
        Check.of(ERRORS, "Where several errors can apply, the order of the @return line is the"
                + " order of the checks.").runs("""
                setSound(10, 3, 99) = UNKNOWN
                setSound(-1, 0, 5) = UNKNOWN
                setSound(0, 3, 99) = BAD_VALUE
                send(2, 5) = UNKNOWN
                shift(6, 100) = UNKNOWN
                shift(-1, 0) = UNKNOWN
                shift(0, 100) = BAD_VALUE
                cutScene(6) = UNKNOWN
                sound(10, 6) = UNKNOWN
                cue(0, 7) = UNKNOWN
                hand(2, 5) = UNKNOWN
                scene(6, 5) = UNKNOWN
                read 3@0s3,4@999s4 = 2
                shift(3, -100) = BAD_VALUE
                shift(4, 100) = BAD_VALUE
                shift(3, -99) = NOT_POSSIBLE
                read 3@0s3,6 = -106
                read 3@0s3,3@0s3, = -112
                """);
        Check.that("readCues(): the fault, then NOT_POSSIBLE, then FULL");
        new Board().fill(40).runs("""
                read 5@1s1,0@0s0, = -112
                read 5@1s1,0@0s0 = NOT_POSSIBLE
                read 5@1s1,5@1s1 = NOT_POSSIBLE
                read 5@1s1,5@1s2 = FULL
                """);
    }

    private static void noneIsLast() {
        Check.of(ERRORS, "NONE is no error; it is returned only if no error applies.").runs("""
                missed(-1) = BAD_VALUE
                missed(0) = NONE
                shift(6, 0) = UNKNOWN
                shift(0, 100) = BAD_VALUE
                shift(0, 99) = NONE
                cutScene(6) = UNKNOWN
                cutScene(5) = NONE
                scene(6, 1) = UNKNOWN
                scene(5, 1) = NONE
                send(2, 2) = UNKNOWN
                send(1, 1) = NONE
                setSound(0, 3, 0) = BAD_VALUE
                setSound(0, 0, 0) = NONE
                """);
    }

    /** Two boards with the same calls, but for the one that is refused: they must stay the same. */
    private static void changesNothing(String setting, String call, int want) {
        Board without = new Board().runs(setting);
        Board with = new Board().runs(setting);
        Check.that(call + " changes nothing");
        with.due(call, want);
        String due = without.everything();
        String is = with.everything();
        Check.holds(due.equals(is), "it was\n" + due + "\nand is\n" + is);
    }

    private static void refusedActsChangeNothing() {
        Check.of(ERRORS, "A call that returns an error or NONE changes nothing.").runs(SETTING);
        String setting = SETTING + "text 2@5s5";
        for (String call : List.of("setSound(-1, 1, 1)", "setSound(10, 1, 1)", "send(-1, 1)",
                "send(3, 1)", "send(0, -1)", "send(0, 5)", "removeCue(-1)", "removeCue(2)", "shift(-1, 1)",
                "shift(6, 1)", "cutScene(-1)", "cutScene(6)")) {
            changesNothing(setting, call, LentSounds.UNKNOWN);
        }
        for (String call : List.of("setSound(1, -1, 1)", "setSound(1, 3, 1)", "setSound(1, 0, 5)",
                "setSound(1, 0, -1)", "setSound(1, 1, 31)", "setSound(1, 1, -1)",
                "setSound(1, 2, 0)", "setSound(1, 2, 10)", "setHands(0)", "setHands(5)", "setCarrying(-1)",
                "setCarrying(21)", "shift(0, 100)", "shift(1, -100)")) {
            changesNothing(setting, call, LentSounds.BAD_VALUE);
        }
        changesNothing(setting, "shift(0, -2)", LentSounds.NOT_POSSIBLE);
        changesNothing(setting, "shift(1, 2)", LentSounds.NOT_POSSIBLE);
        for (String call : List.of("setSound(5, 0, 0)", "setSound(5, 1, 5)", "setSound(5, 2, 1)",
                "setHands(3)", "send(0, 3)", "setCarrying(3)", "shift(0, 0)", "shift(2, 5)",
                "cutScene(2)")) {
            changesNothing(setting, call, LentSounds.NONE);
        }
    }

    private static void refusedReadingChangesNothing() {
        changesNothing(SETTING + "text 2@5s5,2@6s", "readCues()", -110);
        changesNothing(SETTING + "clearText()", "readCues()", -100);
        changesNothing(SETTING + "text 2@5s5,0@1s1*9", "readCues()", LentSounds.NOT_POSSIBLE);
        changesNothing(SETTING + "text 2@5s5,2@5s5*9", "readCues()", LentSounds.NOT_POSSIBLE);
        Check.that("readCues() that is FULL changes nothing");
        new Board().fill(39).runs("""
                text 5@1s1,5@2s2
                keep() = 39
                readCues() = FULL
                count(0) = 39
                scene(5, 0) = 0
                count(11) = 11
                restore() = 39
                undo() = 3
                undo() = 2
                count(0) = 30
                """);
        String sixty = "0@1s1,0@2s1,0@3s1,0@4s1,0@5s1,0@6s1,0@7s1,0@8s1,0@9s1,0@10s1";
        changesNothing("text " + sixty, "type(48)", LentSounds.FULL);
    }

    private static void refusedElsewhereChangesNothing() {
        String noCues = "setHands(3) = 2\n keep() = 0\n send(0, 4) = 0\n text 2@5s5";
        changesNothing(noCues, "take()", LentSounds.NOT_POSSIBLE);
        changesNothing(noCues, "cleanTakes()", LentSounds.NOT_POSSIBLE);
        changesNothing("keep() = 0\n text 2@5s5", "undo()", LentSounds.NONE);
        changesNothing("setHands(3) = 2\n text 2@5s5", "restore()", LentSounds.NONE);
    }

    private static void tellingChangesNothing() {
        String setting = SETTING + "text 2@5s5";
        changesNothing(setting, "sound(10, 0)", LentSounds.UNKNOWN);
        changesNothing(setting, "sound(0, 6)", LentSounds.BAD_VALUE);
        changesNothing(setting, "cue(2, 0)", LentSounds.UNKNOWN);
        changesNothing(setting, "cue(0, 7)", LentSounds.BAD_VALUE);
        changesNothing(setting, "hand(3, 0)", LentSounds.UNKNOWN);
        changesNothing(setting, "hand(0, 5)", LentSounds.BAD_VALUE);
        changesNothing(setting, "scene(6, 0)", LentSounds.UNKNOWN);
        changesNothing(setting, "scene(0, 5)", LentSounds.BAD_VALUE);
        changesNothing(setting, "missed(-1)", LentSounds.BAD_VALUE);
        changesNothing(setting, "missed(2)", LentSounds.NONE);
        changesNothing(setting, "ifHands(0)", LentSounds.BAD_VALUE);
        changesNothing(setting, "count(12)", LentSounds.BAD_VALUE);
        changesNothing(setting, "sound(1, 4)", 1);
        changesNothing(setting, "cue(1, 5)", 1);
        changesNothing(setting, "hand(2, 4)", 2);
        changesNothing(setting, "scene(0, 4)", 0);
        changesNothing(setting, "missed(0)", 1);
        changesNothing(setting, "ifHands(4)", 1);
        changesNothing(setting, "cleanTakes()", 0);
        changesNothing(setting, "count(8)", 1);
    }

    /** No call may ever throw: all mixes of arguments far out, just out, and just within. */
    private static void wildArguments() {
        int[] wild = {Integer.MIN_VALUE, Integer.MIN_VALUE + 1, -100, -1, 0, 3, 4, 5, 6, 7, 9, 10,
            40, 1000, Integer.MAX_VALUE - 1, Integer.MAX_VALUE};
        Check.that("wild arguments are answered, and as by the plain board");
        for (int one : wild) {
            Board x = new Board().runs(SETTING);
            for (String name : List.of("setHands", "setCarrying", "removeCue", "cutScene", "missed",
                    "ifHands", "count")) {
                x.ask(name + "(" + one + ")");
            }
            for (int other : wild) {
                for (String name : List.of("send", "shift", "sound", "cue", "hand", "scene")) {
                    x.ask(name + "(" + one + ", " + other + ")");
                }
            }
            Board sounds = new Board();
            for (int other : wild) {
                for (int third : wild) {
                    sounds.ask("setSound(" + one + ", " + other + ", " + third + ")");
                }
            }
        }
    }

    private static void lastCall() {
        Check.that("the 512th call of an object is answered as all before it");
        Board x = new Board().runs("read 0@0s4 = 1\n setSound(4, 2, 9) = 1");
        int takes = 0;
        while (x.calls() < Board.LAST_CALL - 1) {
            x.due("take()", 1);
            takes++;
        }
        x.due("count(6)", 9 * takes);
        Check.holds(takes == 503 && x.calls() == 512, "these are " + x.calls() + " calls");
    }
}
