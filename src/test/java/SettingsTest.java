/** Sounds, shelves, hands (the terms), and the promises 1 to 5. */
final class SettingsTest {
    private static final String SOUNDS = "SOUNDS, SHELVES";
    private static final String HANDS = "HANDS";

    private SettingsTest() {
    }

    static void run() {
        sounds();
        hands();
        newObject();
        setSound();
        setSoundAnswers();
        setHands();
        send();
        setCarrying();
    }

    private static void sounds() {
        Check.of(SOUNDS, "There are 10 sounds, numbered from 0.").runs("""
                sound(-1, 1) = UNKNOWN
                sound(0, 1) = 5
                sound(9, 1) = 5
                sound(10, 1) = UNKNOWN
                read 0@0s0,0@0s9 = 2
                read 0@0s10 = -105
                """);
        Check.of(SOUNDS, "Each stands on one of 5 shelves, numbered from 0").runs("""
                setSound(3, 0, -1) = BAD_VALUE
                setSound(3, 0, 0) = 3
                sound(3, 0) = 0
                setSound(3, 0, 5) = BAD_VALUE
                setSound(3, 0, 4) = 0
                sound(3, 0) = 4
                """);
        Board shelves = Check.of(SOUNDS, "(at first the sound s on the shelf s modulo 5)");
        int[] first = {0, 1, 2, 3, 4, 0, 1, 2, 3, 4};
        Board charges = Check.of(SOUNDS, "and has charges (0 to 30; at first 5)");
        Board loudness = Check.of(SOUNDS, "and a loudness (1 to 9; at first 1).");
        for (int sound = 0; sound < 10; sound++) {
            shelves.due("sound(" + sound + ", 0)", first[sound]);
            charges.due("sound(" + sound + ", 1)", 5);
            loudness.due("sound(" + sound + ", 2)", 1);
        }
        charges.runs("""
                setSound(0, 1, -1) = BAD_VALUE
                setSound(0, 1, 0) = 5
                sound(0, 1) = 0
                setSound(9, 1, 31) = BAD_VALUE
                setSound(9, 1, 30) = 5
                sound(9, 1) = 30
                """);
        loudness.runs("""
                setSound(0, 2, 0) = BAD_VALUE
                setSound(0, 2, 10) = BAD_VALUE
                setSound(0, 2, 9) = 1
                sound(0, 2) = 9
                setSound(0, 2, 1) = 9
                sound(0, 2) = 1
                """);
    }

    private static void hands() {
        Check.of(HANDS, "There are 1 to 4 hands (at first 2), numbered from 0;").runs("""
                count(1) = 2
                hand(-1, 0) = UNKNOWN
                hand(0, 0) = 0
                hand(1, 0) = 1
                hand(2, 0) = UNKNOWN
                setHands(5) = BAD_VALUE
                setHands(4) = 2
                hand(3, 0) = 3
                hand(4, 0) = UNKNOWN
                setHands(0) = BAD_VALUE
                setHands(1) = 4
                hand(0, 0) = 0
                hand(1, 0) = UNKNOWN
                """);
        Check.of(HANDS, "each is at a shelf (at first the hand h at the shelf h).").runs("""
                hand(0, 0) = 0
                hand(1, 0) = 1
                setHands(4) = 2
                hand(0, 0) = 0
                hand(1, 0) = 1
                hand(2, 0) = 2
                hand(3, 0) = 3
                send(3, -1) = UNKNOWN
                send(3, 5) = UNKNOWN
                """);
        waysBetweenShelves();
    }

    /** The one hand has a tick too few, and then just enough; the shelves are no ring. */
    private static void waysBetweenShelves() {
        Check.of(HANDS, "To walk to another shelf takes a hand as many ticks as the shelves are"
                + " apart.");
        for (int from = 0; from < 5; from++) {
            for (int to = 0; to < 5; to++) {
                Board x = new Board();
                int way = Math.max(from, to) - Math.min(from, to);
                x.runs("setHands(1) = 2\n send(0, " + from + ")");
                if (way > 0) {
                    x.runs("read 0@" + (way - 1) + "s" + to + " = 1\n cue(0, 5) = 3\n"
                            + "cue(0, 6) = NONE\n shift(0, 1) = 1");
                } else {
                    x.runs("read 0@0s" + to + " = 1");
                }
                x.runs("cue(0, 5) = 0").due("cue(0, 6)", way).due("hand(0, 2)", way);
            }
        }
    }

    private static void newObject() {
        Check.of("Promise 1", "Creates a board without cues.").runs("""
                cues =
                cue(0, 0) = UNKNOWN
                missed(0) = NONE
                count(0) = 0
                count(1) = 2
                count(2) = 2
                count(3) = 0
                count(4) = 0
                count(5) = 0
                count(6) = 0
                count(7) = 0
                count(8) = 0
                count(9) = 50
                count(10) = 0
                count(11) = 0
                undo() = NONE
                restore() = NONE
                setSound(0, 1, 6) = 5
                setHands(3) = 2
                keep() = 0
                read 0@0s0 = 1
                """);
        Check.that("a board has nothing of another one");
        new Board().runs("""
                count(0) = 0
                count(1) = 2
                count(9) = 50
                count(10) = 0
                count(11) = 0
                restore() = NONE
                """);
    }

    private static void setSound() {
        Check.of("Promise 2", "Sets something of a sound. This is an act.").runs("""
                setSound(6, 0, 3) = 1
                setSound(6, 1, 7) = 5
                setSound(6, 2, 8) = 1
                count(10) = 3
                sound(6, 0) = 3
                sound(6, 1) = 7
                sound(6, 2) = 8
                sound(5, 0) = 0
                sound(5, 1) = 5
                sound(7, 2) = 1
                undo() = 2
                sound(6, 2) = 1
                undo() = 1
                sound(6, 1) = 5
                undo() = 0
                sound(6, 0) = 1
                """);
        Check.of("Promise 2", "`sound`: 0 to 9").runs("""
                setSound(-1, 1, 6) = UNKNOWN
                setSound(10, 1, 6) = UNKNOWN
                count(9) = 50
                setSound(0, 1, 6) = 5
                setSound(9, 1, 7) = 5
                sound(0, 1) = 6
                sound(9, 1) = 7
                count(9) = 53
                """);
        Check.of("Promise 2", "`what`: 0 for its shelf (0 to 4), 1 for its charges (0 to 30), 2 for"
                + " its loudness (1 to 9)").runs("""
                setSound(2, -1, 1) = BAD_VALUE
                setSound(2, 3, 1) = BAD_VALUE
                setSound(2, 0, -1) = BAD_VALUE
                setSound(2, 0, 0) = 2
                setSound(2, 0, 4) = 0
                setSound(2, 0, 5) = BAD_VALUE
                setSound(2, 1, -1) = BAD_VALUE
                setSound(2, 1, 0) = 5
                setSound(2, 1, 30) = 0
                setSound(2, 1, 31) = BAD_VALUE
                setSound(2, 2, 0) = BAD_VALUE
                setSound(2, 2, 9) = 1
                setSound(2, 2, 1) = 9
                setSound(2, 2, 10) = BAD_VALUE
                """);
    }

    private static void setSoundAnswers() {
        Check.of("Promise 2", "`value`: the new number").runs("""
                setSound(4, 0, 2) = 4
                sound(4, 0) = 2
                setSound(4, 1, 12) = 5
                sound(4, 1) = 12
                setSound(4, 2, 7) = 1
                sound(4, 2) = 7
                sound(4, 0) = 2
                """);
        Check.of("Promise 2", "Returns the previous one; UNKNOWN; BAD_VALUE; NONE if it is so"
                + " already.").runs("""
                setSound(8, 0, 3) = NONE
                setSound(8, 1, 5) = NONE
                setSound(8, 2, 1) = NONE
                count(10) = 0
                setSound(8, 0, 0) = 3
                setSound(8, 0, 0) = NONE
                setSound(8, 0, 3) = 0
                setSound(8, 1, 30) = 5
                setSound(8, 1, 30) = NONE
                setSound(8, 1, 0) = 30
                setSound(8, 1, 0) = NONE
                setSound(8, 2, 9) = 1
                setSound(8, 2, 9) = NONE
                setSound(10, 3, 99) = UNKNOWN
                setSound(-1, 0, 99) = UNKNOWN
                """);
    }

    private static void setHands() {
        Check.of("Promise 3", "Sets how many hands there are;").runs("""
                setHands(3) = 2
                count(1) = 3
                hand(2, 0) = 2
                hand(3, 0) = UNKNOWN
                setHands(1) = 3
                count(1) = 1
                hand(1, 0) = UNKNOWN
                send(1, 0) = UNKNOWN
                """);
        Check.of("Promise 3", "a new one (also one that was there before) is at the shelf with its"
                + " number.").runs("""
                send(0, 4) = 0
                send(1, 3) = 1
                setHands(1) = 2
                setHands(4) = 1
                hand(0, 0) = 4
                hand(1, 0) = 1
                hand(2, 0) = 2
                hand(3, 0) = 3
                send(1, 0) = 1
                send(2, 0) = 2
                send(3, 0) = 3
                setHands(2) = 4
                setHands(4) = 2
                hand(1, 0) = 0
                hand(2, 0) = 2
                hand(3, 0) = 3
                """);
        Check.of("Promise 3", "This is an act.").runs("""
                send(1, 4) = 1
                setHands(1) = 2
                setHands(2) = 1
                count(10) = 3
                undo() = 2
                count(1) = 1
                undo() = 1
                count(1) = 2
                hand(1, 0) = 4
                """);
        Check.of("Promise 3", "`hands`: 1 to 4").runs("""
                setHands(0) = BAD_VALUE
                setHands(5) = BAD_VALUE
                setHands(-1) = BAD_VALUE
                count(1) = 2
                setHands(1) = 2
                setHands(4) = 1
                """);
        Check.of("Promise 3", "Returns the previous number; BAD_VALUE; NONE if it is so already.")
                .runs("""
                setHands(2) = NONE
                count(10) = 0
                setHands(4) = 2
                setHands(4) = NONE
                setHands(1) = 4
                setHands(1) = NONE
                count(10) = 2
                """);
    }

    private static void send() {
        Check.of("Promise 4", "Sends a hand to a shelf. This is an act.").runs("""
                send(1, 3) = 1
                hand(1, 0) = 3
                hand(0, 0) = 0
                count(10) = 1
                undo() = 0
                hand(1, 0) = 1
                """);
        Check.of("Promise 4", "`hand`: a hand").runs("""
                send(-1, 3) = UNKNOWN
                send(2, 3) = UNKNOWN
                send(0, 3) = 0
                send(1, 3) = 1
                setHands(4) = 2
                send(3, 0) = 3
                send(4, 0) = UNKNOWN
                setHands(1) = 4
                send(1, 0) = UNKNOWN
                setHands(2) = 1
                hand(1, 0) = 1
                """);
        Check.of("Promise 4", "`shelf`: 0 to 4").runs("""
                send(0, -1) = UNKNOWN
                send(0, 5) = UNKNOWN
                hand(0, 0) = 0
                send(0, 4) = 0
                send(0, 0) = 4
                """);
        Check.of("Promise 4", "Returns the previous shelf; UNKNOWN (hand or shelf); NONE if it is"
                + " there already.").runs("""
                send(0, 0) = NONE
                send(1, 1) = NONE
                send(2, 2) = UNKNOWN
                send(2, 5) = UNKNOWN
                count(10) = 0
                send(1, 4) = 1
                send(1, 4) = NONE
                send(1, 2) = 4
                count(10) = 2
                """);
    }

    private static void setCarrying() {
        Check.of("Promise 5", "Sets the carrying. This is an act.").runs("""
                setCarrying(7) = 2
                count(2) = 7
                count(10) = 1
                undo() = 0
                count(2) = 2
                """);
        Check.of("Promise 5", "`ticks`: 0 to 20").runs("""
                setCarrying(-1) = BAD_VALUE
                setCarrying(21) = BAD_VALUE
                count(2) = 2
                setCarrying(20) = 2
                count(2) = 20
                setCarrying(0) = 20
                count(2) = 0
                """);
        Check.of("Promise 5", "Returns the previous number; BAD_VALUE; NONE if it is so already.")
                .runs("""
                setCarrying(2) = NONE
                count(10) = 0
                setCarrying(0) = 2
                setCarrying(0) = NONE
                setCarrying(20) = 0
                setCarrying(20) = NONE
                count(10) = 2
                """);
    }
}
