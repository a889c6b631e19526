/** History and the snapshot (the terms), and the promises 13 to 15. */
final class HistoryTest {
    private static final String HISTORY = "HISTORY";

    /** Each act once; behind them all that a state is differs from what it was at first. */
    private static final String[] ACTS = {"setSound(3, 0, 0)", "setSound(3, 1, 9)",
        "setSound(3, 2, 9)", "setHands(3)", "send(0, 3)", "setCarrying(9)", "readCues()", "take()",
        "shift(1, 4)", "removeCue(0)", "cutScene(1)", "restore()"};

    private static final String SETTING = "keep() = 0\n text 0@9s3,1@9s2";

    private HistoryTest() {
    }

    static void run() {
        atMostFour();
        actsAreRecorded();
        noActs();
        snapshot();
        whatAStateIs();
        whatNoStateIs();
        undo();
        keep();
        restore();
    }

    private static void atMostFour() {
        Check.of(HISTORY, "A history of at most 4 states is kept;").runs("""
                count(10) = 0
                setCarrying(3) = 2
                setCarrying(4) = 3
                setCarrying(5) = 4
                count(10) = 3
                setCarrying(6) = 5
                count(10) = 4
                setCarrying(7) = 6
                count(10) = 4
                setCarrying(8) = 7
                count(10) = 4
                """);
        Check.of(HISTORY, "when one more is recorded, the oldest one is dropped;").runs("""
                setCarrying(3) = 2
                setCarrying(4) = 3
                setCarrying(5) = 4
                setCarrying(6) = 5
                setCarrying(7) = 6
                undo() = 3
                count(2) = 6
                undo() = 2
                count(2) = 5
                undo() = 1
                count(2) = 4
                undo() = 0
                count(2) = 3
                undo() = NONE
                count(2) = 3
                """);
        Check.that("of four states none is dropped");
        new Board().runs("""
                setCarrying(3) = 2
                setCarrying(4) = 3
                setCarrying(5) = 4
                setCarrying(6) = 5
                undo() = 3
                undo() = 2
                undo() = 1
                undo() = 0
                count(2) = 2
                undo() = NONE
                """);
        Check.of(HISTORY, "undo() removes and restores the latest one.").runs("""
                setHands(3) = 2
                setCarrying(3) = 2
                undo() = 1
                count(2) = 2
                count(1) = 3
                setCarrying(4) = 2
                count(10) = 2
                undo() = 1
                count(2) = 2
                undo() = 0
                count(1) = 2
                """);
        Check.that("a history that wraps around many times");
        Board x = new Board();
        for (int carrying = 3; carrying <= 20; carrying++) {
            x.due("setCarrying(" + carrying + ")", carrying - 1);
            x.due("undo()", Math.min(carrying - 3, 3)).due("count(2)", carrying - 1);
            x.due("setCarrying(" + carrying + ")", carrying - 1);
        }
        x.runs("undo() = 3\n undo() = 2\n undo() = 1\n undo() = 0\n count(2) = 16");
    }

    private static void actsAreRecorded() {
        Check.of(HISTORY, "Each call of a method that is described as an act, and returns no error"
                + " and not NONE, records the state that was before it.");
        for (int act = 0; act < ACTS.length; act++) {
            Check.that(ACTS[act] + " records the state before it");
            Board before = new Board().runs(SETTING);
            Board undone = new Board().runs(SETTING);
            for (int earlier = 0; earlier < act; earlier++) {
                before.ask(ACTS[earlier]);
                undone.ask(ACTS[earlier]);
            }
            int states = before.ask("count(10)");
            Check.holds(undone.ask(ACTS[act]) >= 0, "it is answered with no error");
            undone.due("count(10)", Math.min(states + 1, 4));
            undone.due("undo()", Math.min(states, 3));
            Check.holds(before.state().equals(undone.state()), "the states are the same");
        }
        Check.that("an act that is refused, or finds all so already, records nothing");
        new Board().runs("""
                setSound(0, 1, 5) = NONE
                setSound(0, 1, 31) = BAD_VALUE
                setSound(10, 1, 1) = UNKNOWN
                setHands(2) = NONE
                setHands(5) = BAD_VALUE
                send(0, 0) = NONE
                send(2, 0) = UNKNOWN
                setCarrying(2) = NONE
                setCarrying(21) = BAD_VALUE
                readCues() = -100
                removeCue(0) = UNKNOWN
                shift(0, 1) = NONE
                shift(6, 1) = UNKNOWN
                shift(0, 100) = BAD_VALUE
                cutScene(0) = NONE
                cutScene(6) = UNKNOWN
                take() = NOT_POSSIBLE
                restore() = NONE
                count(10) = 0
                undo() = NONE
                """);
    }

    private static void noActs() {
        Check.that("what is described as no act records nothing");
        new Board().runs("""
                read 0@0s4,0@9s1 = 2
                type(44) = 12
                clearText() = 12
                keep() = 2
                sound(0, 4) = 0
                cue(0, 4) = NONE
                hand(0, 1) = 0
                scene(0, 3) = 1
                missed(0) = 0
                ifHands(1) = 1
                cleanTakes() = 0
                count(7) = 1
                count(10) = 1
                undo() = 0
                count(10) = 0
                """);
    }

    private static void snapshot() {
        Check.of(HISTORY, "There is one snapshot, empty at first.").runs("""
                restore() = NONE
                setCarrying(5) = 2
                restore() = NONE
                count(2) = 5
                keep() = 0
                setCarrying(6) = 5
                keep() = 0
                setCarrying(7) = 6
                restore() = 0
                count(2) = 6
                restore() = 0
                count(2) = 6
                """);
    }

    /** All acts behind one another, and a snapshot of how all was at first. */
    private static void whatAStateIs() {
        Board x = Check.of(HISTORY, "A state is everything but the text, the history and the"
                + " snapshot.");
        x.runs(SETTING);
        for (String act : ACTS) {
            Check.holds(x.ask(act) >= 0, act + " is answered with no error");
        }
        Check.holds(x.state().equals(new Board().state()), "restore() brings all back");
        x.runs("""
                undo() = 3
                sound(3, 0) = 0
                sound(3, 1) = 8
                sound(3, 2) = 9
                count(1) = 3
                hand(0, 0) = 3
                hand(1, 0) = 0
                count(2) = 9
                count(3) = 1
                count(4) = 2
                count(5) = 0
                cues =
                undo() = 2
                cues = 1@13s2*1
                undo() = 1
                cues = 0@9s3*1,1@13s2*1
                undo() = 0
                cues = 0@9s3*1,1@9s2*1
                """);
        Check.that("undo() and restore() bring back what was missed so far");
        new Board().runs("""
                read 0@0s4 = 1
                setSound(4, 2, 7) = 1
                keep() = 1
                take() = 1
                count(3) = 1
                count(5) = 1
                count(6) = 7
                take() = 1
                count(6) = 14
                undo() = 3
                count(3) = 1
                count(5) = 1
                count(6) = 7
                restore() = 1
                count(3) = 0
                count(5) = 0
                count(6) = 0
                """);
    }

    private static void whatNoStateIs() {
        Check.that("the text, the history and the snapshot are no part of a state");
        new Board().runs("""
                setCarrying(5) = 2
                text 0@1s1
                keep() = 0
                setCarrying(6) = 5
                undo() = 1
                count(11) = 5
                clearText() = 5
                restore() = 0
                count(11) = 0
                count(10) = 2
                undo() = 1
                undo() = 0
                count(2) = 2
                count(11) = 0
                restore() = 0
                count(2) = 5
                setCarrying(7) = 5
                keep() = 0
                undo() = 1
                count(2) = 5
                restore() = 0
                count(2) = 7
                """);
    }

    private static void undo() {
        Check.of("Promise 13", "Removes and restores the latest state of the history.").runs("""
                setCarrying(5) = 2
                read 0@1s1 = 1
                count(10) = 2
                undo() = 1
                count(10) = 1
                count(0) = 0
                count(2) = 5
                undo() = 0
                count(10) = 0
                count(2) = 2
                """);
        Check.of("Promise 13", "Returns the number of states that are left; NONE if the history is"
                + " empty.").runs("""
                undo() = NONE
                setHands(1) = 2
                undo() = 0
                undo() = NONE
                undo() = NONE
                count(1) = 2
                setHands(1) = 2
                setHands(2) = 1
                setHands(3) = 2
                setHands(4) = 3
                setHands(1) = 4
                undo() = 3
                undo() = 2
                undo() = 1
                undo() = 0
                undo() = NONE
                count(1) = 1
                """);
    }

    private static void keep() {
        Check.of("Promise 14", "Takes a snapshot of the state, in place of the one that was.")
                .runs("""
                read 0@1s1 = 1
                keep() = 1
                read 0@2s2 = 2
                keep() = 2
                cutScene(0) = 2
                restore() = 2
                cues = 0@1s1*1,0@2s2*1
                """);
        Check.that("what is changed behind keep() does not change the snapshot");
        new Board().runs("""
                read 0@9s3 = 1
                keep() = 1
                setSound(3, 1, 0) = 5
                send(0, 4) = 0
                read 1@9s3 = 2
                shift(0, 3) = 1
                take() = 2
                restore() = 1
                sound(3, 1) = 5
                hand(0, 0) = 0
                count(3) = 0
                cues = 0@9s3*1
                """);
        Check.of("Promise 14", "Returns the number of cues.").runs("""
                keep() = 0
                read 0@1s1,0@2s1 = 2
                keep() = 2
                removeCue(0) = 1
                keep() = 1
                count(10) = 2
                """);
        Check.that("keep() and restore() of 40 cues");
        new Board().fill(40).runs("keep() = 40\n cutScene(0) = 10\n restore() = 40\n"
                + "cue(39, 2) = 9\n cue(0, 0) = 0");
    }

    private static void restore() {
        Check.of("Promise 15", "Restores the state of the snapshot, which stays. This is an act.")
                .runs("""
                read 0@1s1 = 1
                keep() = 1
                read 0@2s2 = 2
                restore() = 1
                cues = 0@1s1*1
                count(10) = 3
                setSound(1, 1, 9) = 5
                shift(0, 5) = 1
                restore() = 1
                cues = 0@1s1*1
                sound(1, 1) = 5
                count(10) = 4
                undo() = 3
                cues = 0@6s1*1
                sound(1, 1) = 9
                restore() = 1
                cues = 0@1s1*1
                """);
        Check.that("restore() of a state that is so already is an act all the same");
        new Board().runs("""
                keep() = 0
                restore() = 0
                count(10) = 1
                restore() = 0
                count(10) = 2
                """);
        Check.of("Promise 15", "Returns the number of cues then; NONE if there is no snapshot.")
                .runs("""
                restore() = NONE
                count(10) = 0
                keep() = 0
                read 0@1s1,0@2s2 = 2
                restore() = 0
                undo() = 1
                keep() = 2
                cutScene(0) = 2
                restore() = 2
                """);
    }
}
