/** Promise 10, and the promises 16 to 23: what is told. */
final class TakesTest {
    private TakesTest() {
    }

    static void run() {
        take();
        sound();
        soundInATake();
        cue();
        cueInATake();
        hand();
        scene();
        sceneInATake();
        missed();
        ifHands();
        cleanTakes();
        count();
        countsOfTakes();
    }

    private static void take() {
        Check.of("Promise 10", "Does a take. This is an act.").runs("""
                read 0@3s4*2,1@4s0 = 2
                take() = 0
                count(10) = 2
                count(3) = 1
                sound(4, 1) = 4
                hand(1, 0) = 4
                undo() = 1
                count(3) = 0
                count(4) = 0
                sound(4, 1) = 5
                hand(1, 0) = 1
                count(0) = 2
                """);
        Check.of("Promise 10", "Returns how many cues are missed; NOT_POSSIBLE if there are no"
                + " cues.").runs("""
                take() = NOT_POSSIBLE
                read 0@0s0,0@0s1,0@0s2 = 3
                take() = 1
                setHands(3) = 2
                take() = 0
                setSound(0, 1, 0) = 3
                setSound(1, 1, 0) = 3
                setSound(2, 1, 0) = 4
                take() = 3
                cutScene(0) = 3
                take() = NOT_POSSIBLE
                """);
        Check.that("takes of 40 cues that are all missed but for four");
        new Board().fill(40).runs("take() = 38\n count(5) = 38\n count(4) = 2\n setHands(4) = 2\n"
                + "take() = 36\n count(5) = 74\n count(6) = 74\n count(4) = 6");
    }

    private static void sound() {
        Check.of("Promise 16", "`sound`: 0 to 9").runs("""
                sound(-1, 0) = UNKNOWN
                sound(10, 0) = UNKNOWN
                sound(0, 0) = 0
                sound(9, 0) = 4
                """);
        Check.of("Promise 16", "`what`: 0 for its shelf, 1 for its charges, 2 for its loudness, 3"
                + " for its cues,").runs("""
                setSound(6, 0, 4) = 1
                setSound(6, 1, 30) = 5
                setSound(6, 2, 9) = 1
                sound(6, 0) = 4
                sound(6, 1) = 30
                sound(6, 2) = 9
                sound(6, 3) = 0
                read 0@0s6,1@0s6,0@1s7 = 3
                sound(6, 3) = 2
                sound(7, 3) = 1
                sound(5, 3) = 0
                removeCue(0) = 2
                sound(6, 3) = 1
                """);
        Check.of("Promise 16", "5 for how many charges it would lack for all its cues: these less"
                + " its charges (0 if none)").runs("""
                sound(0, 5) = 0
                setSound(0, 1, 0) = 5
                sound(0, 5) = 0
                read 0@0s0,0@9s0,0@9s5 = 3
                sound(0, 5) = 2
                sound(5, 5) = 0
                setSound(0, 1, 1) = 0
                sound(0, 5) = 1
                setSound(0, 1, 2) = 1
                sound(0, 5) = 0
                setSound(0, 1, 3) = 2
                sound(0, 5) = 0
                """);
        Check.of("Promise 16", "Returns the number; UNKNOWN; BAD_VALUE.").runs("""
                sound(0, -1) = BAD_VALUE
                sound(0, 6) = BAD_VALUE
                sound(10, 6) = UNKNOWN
                sound(-1, -1) = UNKNOWN
                """);
    }

    private static void soundInATake() {
        Check.of("Promise 16", "4 for how often it would be played in a take now,").runs("""
                sound(0, 4) = 0
                read 0@0s0,0@9s0,0@18s0,1@18s5 = 4
                sound(0, 4) = 3
                sound(5, 4) = 1
                sound(1, 4) = 0
                setSound(0, 1, 2) = 5
                sound(0, 4) = 2
                setSound(0, 1, 0) = 2
                sound(0, 4) = 0
                setSound(0, 1, 5) = 0
                take() = 0
                sound(0, 4) = 2
                sound(0, 1) = 2
                """);
        Check.that("what is told of a take now is told for the hands that there are now");
        new Board().runs("""
                read 0@0s0,0@0s1,0@0s2,1@3s2 = 4
                sound(2, 4) = 1
                scene(1, 4) = 0
                missed(0) = 2
                missed(1) = NONE
                count(7) = 1
                count(8) = 1
                setHands(3) = 2
                sound(2, 4) = 2
                scene(1, 4) = 1
                missed(0) = NONE
                count(7) = 0
                count(8) = 0
                setHands(1) = 3
                sound(1, 4) = 0
                sound(2, 4) = 1
                scene(1, 4) = 0
                missed(0) = 1
                missed(1) = 2
                count(7) = 2
                count(8) = 2
                """);
    }

    private static void cue() {
        Check.of("Promise 17", "`cue`: a cue").runs("""
                cue(0, 0) = UNKNOWN
                read 0@1s1,0@2s2 = 2
                cue(-1, 0) = UNKNOWN
                cue(0, 1) = 1
                cue(1, 1) = 2
                cue(2, 0) = UNKNOWN
                """);
        Check.of("Promise 17", "`what`: 0 for its scene, 1 for its tick, 2 for its sound, 3 for how"
                + " long it lasts,").runs("""
                read 4@567s8*19,3@999s9 = 2
                cue(0, 0) = 4
                cue(0, 1) = 567
                cue(0, 2) = 8
                cue(0, 3) = 19
                cue(1, 0) = 3
                cue(1, 1) = 999
                cue(1, 2) = 9
                cue(1, 3) = 1
                """);
        Check.of("Promise 17", "Returns the number; UNKNOWN; BAD_VALUE.").runs("""
                read 0@1s1 = 1
                cue(0, -1) = BAD_VALUE
                cue(0, 7) = BAD_VALUE
                cue(1, 7) = UNKNOWN
                cue(-1, -1) = UNKNOWN
                """);
    }

    private static void cueInATake() {
        Check.of("Promise 17", "4 for the hand that would play it in a take now (NONE if it would"
                + " be missed),").runs("""
                read 0@0s0,0@0s1,0@0s2 = 3
                cue(0, 4) = 0
                cue(1, 4) = 1
                cue(2, 4) = NONE
                setHands(4) = 2
                cue(2, 4) = 2
                send(2, 0) = 2
                send(3, 2) = 3
                cue(2, 4) = 3
                """);
        Check.of("Promise 17", "5 for the reason for which it would be missed (0 if it would be"
                + " played),").runs("""
                read 0@0s0,1@1s0,0@1s1,0@1s2 = 4
                setSound(1, 1, 0) = 5
                cue(0, 5) = 0
                cue(1, 5) = 1
                cue(2, 5) = 0
                cue(3, 5) = 2
                read 2@1s4 = 5
                cue(4, 5) = 3
                """);
        Check.of("Promise 17", "6 for how far this hand would walk (NONE if it would be missed)")
                .runs("""
                setHands(1) = 2
                read 0@0s0,0@5s4,0@6s0,0@9s1 = 4
                cue(0, 6) = 0
                cue(1, 6) = 4
                cue(2, 6) = NONE
                cue(3, 6) = 3
                cue(1, 4) = 0
                """);
        Check.that("the last one of 40 cues is played like any other");
        new Board().fill(39).runs("read 5@999s4 = 40\n cue(39, 4) = 1\n cue(39, 5) = 0\n"
                + "cue(39, 6) = 3\n missed(36) = 38\n missed(37) = NONE");
    }

    private static void hand() {
        Check.of("Promise 18", "`hand`: a hand").runs("""
                hand(-1, 0) = UNKNOWN
                hand(0, 0) = 0
                hand(1, 0) = 1
                hand(2, 0) = UNKNOWN
                setHands(1) = 2
                hand(1, 0) = UNKNOWN
                setHands(4) = 1
                hand(3, 0) = 3
                hand(4, 0) = UNKNOWN
                """);
        Check.of("Promise 18", "`what`: 0 for its shelf, 1 for how many cues it would play in a"
                + " take now, 2 for how far it would walk in it, 3 for the tick from which on it"
                + " would be free behind it, 4 for the shelf at which it would be then").runs("""
                hand(0, 1) = 0
                hand(0, 2) = 0
                hand(0, 3) = 0
                hand(0, 4) = 0
                hand(1, 4) = 1
                read 0@5s4*3,0@11s1*20,1@5s9,1@6s9 = 4
                setHands(1) = 2
                hand(0, 0) = 0
                hand(0, 1) = 2
                hand(0, 2) = 7
                hand(0, 3) = 31
                hand(0, 4) = 1
                setHands(2) = 1
                hand(0, 1) = 3
                hand(0, 2) = 7
                hand(0, 3) = 31
                hand(0, 4) = 1
                hand(1, 1) = 1
                hand(1, 2) = 3
                hand(1, 3) = 8
                hand(1, 4) = 4
                hand(1, 0) = 1
                """);
        Check.of("Promise 18", "Returns the number; UNKNOWN; BAD_VALUE.").runs("""
                hand(0, -1) = BAD_VALUE
                hand(0, 5) = BAD_VALUE
                hand(2, 5) = UNKNOWN
                hand(-1, -1) = UNKNOWN
                """);
    }

    private static void scene() {
        Check.of("Promise 19", "`scene`: 0 to 5").runs("""
                scene(-1, 0) = UNKNOWN
                scene(6, 0) = UNKNOWN
                read 0@1s1,5@1s1,5@2s1 = 3
                scene(0, 0) = 1
                scene(5, 0) = 2
                scene(1, 0) = 0
                """);
        Check.of("Promise 19", "`what`: 0 for its cues, 1 for the tick of its first one, 2 for the"
                + " greatest end of its cues (1 and 2: NONE without cues),").runs("""
                scene(0, 0) = 0
                scene(0, 1) = NONE
                scene(0, 2) = NONE
                scene(5, 1) = NONE
                scene(5, 2) = NONE
                read 2@7s1*20,2@9s1*2,2@8s1*20,1@0s1 = 4
                scene(2, 0) = 3
                scene(2, 1) = 7
                scene(2, 2) = 28
                scene(1, 1) = 0
                scene(1, 2) = 1
                scene(3, 0) = 0
                scene(3, 1) = NONE
                scene(3, 2) = NONE
                shift(2, -7) = 3
                scene(2, 1) = 0
                scene(2, 2) = 21
                cutScene(2) = 3
                scene(2, 1) = NONE
                scene(2, 2) = NONE
                read 0@999s1*20 = 2
                scene(0, 1) = 999
                scene(0, 2) = 1019
                """);
        Check.of("Promise 19", "Returns the number; UNKNOWN; BAD_VALUE.").runs("""
                scene(0, -1) = BAD_VALUE
                scene(0, 5) = BAD_VALUE
                scene(6, 5) = UNKNOWN
                scene(-1, -1) = UNKNOWN
                """);
    }

    private static void sceneInATake() {
        Check.of("Promise 19", "3 for how many of its cues would be missed in a take now,").runs("""
                scene(1, 3) = 0
                read 0@0s0,1@1s0,1@3s0,1@3s4,2@3s9,2@3s8 = 6
                scene(0, 3) = 0
                scene(1, 3) = 1
                scene(2, 3) = 2
                scene(3, 3) = 0
                setHands(3) = 2
                scene(1, 3) = 1
                scene(2, 3) = 1
                setHands(4) = 3
                scene(2, 3) = 0
                """);
        Check.of("Promise 19", "4 for how many times a sound would be lent to it in that: played in"
                + " it, and the latest in another scene").runs("""
                scene(1, 4) = 0
                read 0@0s0,1@3s0,1@5s0,2@6s0,2@9s0,0@20s1 = 6
                scene(0, 4) = 0
                scene(1, 4) = 1
                scene(2, 4) = 1
                scene(3, 4) = 0
                setSound(0, 1, 30) = 5
                read 1@20s0,1@23s1,0@23s0,0@24s0 = 10
                scene(0, 4) = 1
                scene(1, 4) = 3
                scene(2, 4) = 1
                """);
        Check.that("a sound that waits for its carrying longer than needed is lent all the same");
        new Board().runs("""
                setCarrying(0) = 2
                setSound(0, 1, 6) = 5
                read 0@0s0,1@1s0,0@500s0 = 3
                scene(1, 4) = 1
                scene(0, 4) = 1
                take() = 0
                scene(0, 4) = 1
                """);
    }

    private static void missed() {
        Check.of("Promise 20", "Tells the cues that would be missed in a take now.").runs("""
                read 0@0s4,0@1s1,0@1s9,0@2s1,0@2s4,1@2s1 = 6
                missed(0) = 0
                missed(1) = 2
                missed(2) = 4
                missed(3) = 5
                missed(4) = NONE
                count(7) = 4
                setHands(4) = 2
                setSound(4, 0, 3) = 4
                missed(0) = 2
                missed(1) = 5
                missed(2) = NONE
                """);
        Check.of("Promise 20", "`rank`: a rank, from 0").runs("""
                read 0@0s4 = 1
                missed(-1) = BAD_VALUE
                missed(0) = 0
                missed(1) = NONE
                """);
        Check.of("Promise 20", "Returns the cue; BAD_VALUE if rank is negative; NONE if there are"
                + " not so many.").runs("""
                missed(0) = NONE
                missed(-1) = BAD_VALUE
                missed(-2147483648) = BAD_VALUE
                missed(2147483647) = NONE
                read 0@0s0 = 1
                missed(0) = NONE
                setSound(0, 1, 0) = 5
                missed(0) = 0
                missed(1) = NONE
                missed(39) = NONE
                missed(40) = NONE
                """);
        Check.that("a cue for which a hand walks is not missed");
        new Board().runs("""
                read 0@9s4,0@0s3 = 2
                cue(1, 6) = 3
                missed(0) = 0
                missed(1) = NONE
                """);
        Check.that("a cue that is removed is missed no longer, though it was the last one");
        new Board().runs("""
                read 0@0s0,0@0s4 = 2
                missed(0) = 1
                removeCue(1) = 1
                missed(0) = NONE
                """);
        Check.that("missed() with 40 cues, of which the first and the second are played");
        new Board().fill(40).runs("missed(0) = 2\n missed(37) = 39\n missed(38) = NONE");
    }

    private static void ifHands() {
        Check.of("Promise 21", "Tells what the ear would miss in a take with another number of"
                + " hands").runs("""
                ifHands(1) = 0
                read 0@0s0,0@0s1,0@0s2,0@0s3 = 4
                setSound(0, 2, 2) = 1
                setSound(1, 2, 3) = 1
                setSound(2, 2, 4) = 1
                setSound(3, 2, 5) = 1
                ifHands(1) = 12
                ifHands(2) = 9
                ifHands(3) = 5
                ifHands(4) = 0
                count(1) = 2
                count(8) = 9
                setHands(4) = 2
                ifHands(2) = 9
                ifHands(4) = 0
                """);
        Check.of("Promise 21", "(new ones at the shelves with their numbers).").runs("""
                read 0@0s0,0@0s1,0@0s2 = 3
                send(1, 4) = 1
                ifHands(2) = 2
                ifHands(3) = 1
                setHands(1) = 2
                ifHands(2) = 1
                ifHands(3) = 0
                send(0, 4) = 0
                ifHands(1) = 3
                ifHands(3) = 1
                hand(0, 0) = 4
                """);
        Check.that("each of several new hands is at its shelf, wherever it was before");
        new Board().runs("""
                setHands(4) = 2
                send(1, 4) = 1
                send(2, 4) = 2
                send(3, 4) = 3
                setHands(1) = 4
                read 0@0s0,0@0s1,0@0s2,0@0s3 = 4
                ifHands(1) = 3
                ifHands(2) = 2
                ifHands(3) = 1
                ifHands(4) = 0
                """);
        Check.of("Promise 21", "`hands`: 1 to 4").runs("""
                read 0@0s0 = 1
                ifHands(0) = BAD_VALUE
                ifHands(1) = 0
                ifHands(4) = 0
                ifHands(5) = BAD_VALUE
                """);
        Check.of("Promise 21", "Returns the sum of the loudness; BAD_VALUE.").runs("""
                ifHands(-1) = BAD_VALUE
                ifHands(0) = BAD_VALUE
                read 0@0s4,1@0s4 = 2
                setSound(4, 2, 9) = 1
                ifHands(4) = 18
                """);
    }

    private static void cleanTakes() {
        Check.of("Promise 22", "Tells how many takes can be done, one behind the other, until one"
                + " misses a cue.").runs("""
                read 0@0s0,0@9s0 = 2
                cleanTakes() = 2
                setSound(0, 1, 6) = 5
                cleanTakes() = 3
                take() = 0
                cleanTakes() = 2
                setSound(0, 1, 30) = 4
                read 0@9s1 = 3
                cleanTakes() = 5
                setHands(1) = 2
                cleanTakes() = 0
                removeCue(1) = 2
                cleanTakes() = 1
                count(3) = 1
                sound(0, 1) = 30
                hand(0, 0) = 0
                """);
        Check.of("Promise 22", "Returns how many miss none, up to 30;").runs("""
                read 0@0s0 = 1
                setSound(0, 1, 0) = 5
                cleanTakes() = 0
                setSound(0, 1, 1) = 0
                cleanTakes() = 1
                setSound(0, 1, 29) = 1
                cleanTakes() = 29
                setSound(0, 1, 30) = 29
                cleanTakes() = 30
                """);
        Check.of("Promise 22", "NOT_POSSIBLE if there are no cues.").runs("""
                cleanTakes() = NOT_POSSIBLE
                read 0@0s0 = 1
                cleanTakes() = 5
                removeCue(0) = 0
                cleanTakes() = NOT_POSSIBLE
                """);
    }

    private static void count() {
        Check.of("Promise 23", "`what`: 0 for cues, 1 for hands, 2 for the carrying,").runs("""
                read 0@0s0,0@1s0 = 2
                setHands(3) = 2
                setCarrying(9) = 2
                count(0) = 2
                count(1) = 3
                count(2) = 9
                """);
        Board charges = Check.of("Promise 23", "9 for the sum of all charges,");
        charges.due("count(9)", 50);
        for (int sound = 0; sound < 10; sound++) {
            charges.runs("setSound(" + sound + ", 1, 30) = 5").due("count(9)", 75 + 25 * sound);
        }
        for (int sound = 0; sound < 10; sound++) {
            charges.runs("setSound(" + sound + ", 1, 0) = 30").due("count(9)", 270 - 30 * sound);
        }
        Check.of("Promise 23", "10 for the states in the history, 11 for the length of the text")
                .runs("""
                count(10) = 0
                count(11) = 0
                read 0@1s1 = 1
                count(10) = 1
                count(11) = 5
                setHands(3) = 2
                setHands(4) = 3
                setHands(1) = 4
                count(10) = 4
                setHands(2) = 1
                count(10) = 4
                undo() = 3
                count(10) = 3
                """);
        Check.of("Promise 23", "Returns the number; BAD_VALUE.").runs("""
                count(-1) = BAD_VALUE
                count(12) = BAD_VALUE
                count(0) = 0
                count(11) = 0
                """);
    }

    private static void countsOfTakes() {
        Check.of("Promise 23", "3 for takes so far, 4 for cues played so far, 5 for cues missed so"
                + " far, 6 for what the ear missed so far, 7 for cues that would be missed in a"
                + " take now, 8 for what the ear would miss in it,").runs("""
                read 0@0s0*2,1@1s0,1@4s1,2@9s9 = 4
                setSound(0, 2, 4) = 1
                setSound(9, 2, 9) = 1
                setSound(9, 1, 0) = 5
                count(3) = 0
                count(4) = 0
                count(5) = 0
                count(6) = 0
                count(7) = 2
                count(8) = 13
                take() = 2
                count(3) = 1
                count(4) = 2
                count(5) = 2
                count(6) = 13
                setSound(9, 1, 1) = 0
                count(7) = 1
                count(8) = 4
                take() = 1
                count(3) = 2
                count(4) = 5
                count(5) = 3
                count(6) = 17
                """);
    }
}
