/** Scenes and cues (the terms), and the promises 6 to 9; what is wrong in a text: TextsTest. */
final class CuesTest {
    private static final String CUES = "SCENES AND CUES";

    private CuesTest() {
    }

    static void run() {
        scenes();
        cues();
        order();
        readCues();
        readCuesRefused();
        readCuesFull();
        removeCue();
        shift();
        shiftAnswers();
        cutScene();
    }

    private static void scenes() {
        Check.of(CUES, "There are 6 scenes, numbered from 0.").runs("""
                scene(-1, 0) = UNKNOWN
                scene(0, 0) = 0
                scene(5, 0) = 0
                scene(6, 0) = UNKNOWN
                read 0@1s1,5@1s1 = 2
                scene(0, 0) = 1
                scene(5, 0) = 1
                read 6@1s1 = -100
                shift(-1, 1) = UNKNOWN
                shift(0, 1) = 1
                shift(5, 1) = 1
                shift(6, 1) = UNKNOWN
                cutScene(-1) = UNKNOWN
                cutScene(0) = 1
                cutScene(5) = 1
                cutScene(6) = UNKNOWN
                """);
    }

    private static void cues() {
        Check.of(CUES, "A cue is of a scene, a tick (0 to 999), a sound, and how long it lasts (1"
                + " to 20 ticks).").runs("""
                read 0@0s0*1 = 1
                read 5@999s9*20 = 2
                cues = 0@0s0*1,5@999s9*20
                read 0@1000s0 = -105
                read 0@1s0*0 = -106
                read 0@1s0*21 = -107
                shift(0, -1) = NOT_POSSIBLE
                shift(5, 1) = NOT_POSSIBLE
                cues = 0@0s0*1,5@999s9*20
                """);
        Check.of(CUES, "There are at most 40 cues at a time;").fill(40).runs("""
                read 5@9s9 = FULL
                count(0) = 40
                cue(39, 0) = 3
                cue(39, 2) = 9
                cue(40, 0) = UNKNOWN
                removeCue(0) = 39
                read 5@9s9 = 40
                cue(39, 0) = 5
                read 5@8s9 = FULL
                """);
        Check.of(CUES, "No two cues have the same tick, scene and sound.").runs("""
                read 2@5s7*3 = 1
                read 2@5s7*3 = NOT_POSSIBLE
                read 2@5s7*4 = NOT_POSSIBLE
                read 2@6s7*3 = 2
                read 3@5s7*3 = 3
                read 2@5s8*3 = 4
                read 4@9s9*1,4@9s9*2 = NOT_POSSIBLE
                count(0) = 4
                """);
    }

    private static void order() {
        Check.of(CUES, "they are told in their order: by ticks, of several by scenes, of these by"
                + " sounds.").runs("""
                read 5@7s0,1@7s3*2,0@10s9,1@7s2*20,0@9s8,5@6s9 = 6
                cues = 5@6s9*1,1@7s2*20,1@7s3*2,5@7s0*1,0@9s8*1,0@10s9*1
                cutScene(0) = 2
                read 0@0s0,0@999s0,1@7s1,2@7s0 = 8
                cues = 0@0s0*1,5@6s9*1,1@7s1*1,1@7s2*20,1@7s3*2,2@7s0*1,5@7s0*1,0@999s0*1
                """);
        Check.that("the highest scene and sound of a tick go ahead of the lowest ones of the next");
        new Board().runs("""
                read 0@8s0,5@7s9,0@7s9,1@7s0 = 4
                cues = 0@7s9*1,1@7s0*1,5@7s9*1,0@8s0*1
                """);
        Check.of(CUES, "Cues are numbered from 0 in this order.").runs("""
                read 1@5s1,1@8s2 = 2
                cue(-1, 1) = UNKNOWN
                cue(0, 1) = 5
                cue(1, 1) = 8
                cue(2, 1) = UNKNOWN
                read 1@3s3,1@6s3 = 4
                cue(0, 1) = 3
                cue(1, 1) = 5
                cue(2, 1) = 6
                cue(3, 1) = 8
                cue(4, 1) = UNKNOWN
                removeCue(0) = 3
                cue(0, 1) = 5
                cue(2, 1) = 8
                cue(3, 1) = UNKNOWN
                """);
    }

    private static void readCues() {
        Check.of("Promise 6", "Adds the cues of the text, which stays;").runs("""
                read 1@4s3*2,0@2s1 = 2
                count(11) = 13
                cues = 0@2s1*1,1@4s3*2
                readCues() = NOT_POSSIBLE
                count(11) = 13
                removeCue(0) = 1
                removeCue(0) = 0
                readCues() = 2
                cues = 0@2s1*1,1@4s3*2
                clearText() = 13
                """);
        Check.of("Promise 6", "all of them, or none.").runs("""
                read 1@4s3 = 1
                read 0@1s1,0@2s2,1@4s3 = NOT_POSSIBLE
                cues = 1@4s3*1
                read 0@1s1,0@2s2,0@1s1 = NOT_POSSIBLE
                cues = 1@4s3*1
                read 0@1s1,0@2s2,0@3s = -116
                cues = 1@4s3*1
                read 0@1s1,0@2s2,0@3s3 = 4
                cues = 0@1s1*1,0@2s2*1,0@3s3*1,1@4s3*1
                """);
        Check.of("Promise 6", "This is one act.").runs("""
                read 0@1s1,0@2s2,0@3s3 = 3
                count(10) = 1
                undo() = 0
                cues =
                """);
        Check.of("Promise 6", "Returns how many cues there are then;").runs("""
                read 0@1s1 = 1
                read 0@2s1,0@3s1,0@4s1 = 4
                read 0@0s1,0@5s1 = 6
                """);
    }

    private static void readCuesRefused() {
        Check.of("Promise 6", "-100 minus the fault of the text if it has one (which is an error);")
                .runs("""
                readCues() = -100
                read 0@1s1x = -105
                read 0@1s = -104
                count(10) = 0
                count(0) = 0
                count(11) = 4
                read 0@1s1 = 1
                read 0@1s1, = -106
                read 0@1s1,0@1s1, = -112
                """);
        Check.of("Promise 6", "NOT_POSSIBLE if any cue is there already, or twice in the text;")
                .runs("""
                read 0@5s2*3,3@5s2 = 2
                read 3@5s2 = NOT_POSSIBLE
                read 3@6s2,0@5s2*4 = NOT_POSSIBLE
                read 3@6s2,4@6s2,3@6s2 = NOT_POSSIBLE
                read 3@6s2*1,3@6s2*2 = NOT_POSSIBLE
                count(10) = 1
                read 3@6s2,4@6s2,3@6s3,3@7s2 = 6
                """);
    }

    private static void readCuesFull() {
        String ten = "5@1s0,5@1s1,5@1s2,5@1s3,5@1s4,5@1s5,5@1s6,5@1s7,5@1s8,5@1s";
        Check.of("Promise 6", "FULL if there would be more than 40.").fill(38).runs("""
                read 5@1s0,5@1s1,5@1s2 = FULL
                count(0) = 38
                count(10) = 4
                read 5@1s0,5@1s1 = 40
                read 5@1s2 = FULL
                read 0@0s0 = NOT_POSSIBLE
                count(0) = 40
                """);
        Check.that("readCues() with 40 cues, and a text with ten more");
        new Board().fill(40).runs("read " + ten + "9 = FULL\n read " + ten + "0 = NOT_POSSIBLE\n"
                + "count(0) = 40");
    }

    private static void removeCue() {
        Check.of("Promise 7", "Removes a cue. This is an act.").runs("""
                read 0@1s1,0@2s2*2,1@3s3,2@4s4*4 = 4
                removeCue(1) = 3
                cues = 0@1s1*1,1@3s3*1,2@4s4*4
                removeCue(2) = 2
                cues = 0@1s1*1,1@3s3*1
                removeCue(0) = 1
                cues = 1@3s3*1
                count(10) = 4
                undo() = 3
                cues = 0@1s1*1,1@3s3*1
                undo() = 2
                undo() = 1
                cues = 0@1s1*1,0@2s2*2,1@3s3*1,2@4s4*4
                """);
        Check.of("Promise 7", "`cue`: a cue").runs("""
                removeCue(0) = UNKNOWN
                removeCue(-1) = UNKNOWN
                read 0@1s1,0@2s2 = 2
                removeCue(-1) = UNKNOWN
                removeCue(2) = UNKNOWN
                removeCue(1) = 1
                removeCue(1) = UNKNOWN
                cues = 0@1s1*1
                """);
        Check.of("Promise 7", "Returns how many cues are left; UNKNOWN.").runs("""
                read 0@1s1,0@2s2,0@3s3 = 3
                removeCue(0) = 2
                removeCue(0) = 1
                removeCue(0) = 0
                removeCue(0) = UNKNOWN
                count(10) = 4
                """);
        Check.that("removeCue() of the last of 40 cues");
        new Board().fill(40).runs("removeCue(39) = 39\n removeCue(39) = UNKNOWN\n cue(38, 2) = 8");
    }

    private static void shift() {
        Check.of("Promise 8", "Shifts all cues of a scene by some ticks. This is an act.").runs("""
                read 0@9s1*2,1@10s0,0@10s1,3@9s4 = 4
                cues = 0@9s1*2,3@9s4*1,0@10s1*1,1@10s0*1
                shift(0, 1) = 2
                cues = 3@9s4*1,0@10s1*2,1@10s0*1,0@11s1*1
                shift(0, -3) = 2
                cues = 0@7s1*2,0@8s1*1,3@9s4*1,1@10s0*1
                count(10) = 3
                undo() = 2
                undo() = 1
                cues = 0@9s1*2,3@9s4*1,0@10s1*1,1@10s0*1
                """);
        Check.of("Promise 8", "`scene`: 0 to 5").runs("""
                read 0@5s1,5@5s1 = 2
                shift(-1, 1) = UNKNOWN
                shift(6, 1) = UNKNOWN
                shift(0, 1) = 1
                shift(5, 2) = 1
                cues = 0@6s1*1,5@7s1*1
                """);
        Check.of("Promise 8", "`ticks`: -99 to 99").runs("""
                read 2@200s1 = 1
                shift(2, -100) = BAD_VALUE
                shift(2, 100) = BAD_VALUE
                shift(2, 99) = 1
                cue(0, 1) = 299
                shift(2, -99) = 1
                cue(0, 1) = 200
                """);
    }

    private static void shiftAnswers() {
        Check.of("Promise 8", "Returns how many cues are shifted; UNKNOWN; BAD_VALUE;").runs("""
                read 0@1s1,1@1s1,1@2s1,1@999s1 = 4
                shift(0, 1) = 1
                shift(1, -1) = 3
                shift(6, 100) = UNKNOWN
                shift(-1, -100) = UNKNOWN
                shift(6, 0) = UNKNOWN
                shift(1, 100) = BAD_VALUE
                shift(1, -100) = BAD_VALUE
                shift(2, 100) = BAD_VALUE
                """);
        Check.of("Promise 8", "NOT_POSSIBLE if the tick of any would be below 0").runs("""
                read 0@1s1,0@200s2,1@0s3 = 3
                shift(0, -2) = NOT_POSSIBLE
                cues = 1@0s3*1,0@1s1*1,0@200s2*1
                shift(0, -1) = 2
                cues = 0@0s1*1,1@0s3*1,0@199s2*1
                shift(0, -1) = NOT_POSSIBLE
                shift(1, -1) = NOT_POSSIBLE
                shift(1, -99) = NOT_POSSIBLE
                count(10) = 2
                """);
        Check.of("Promise 8", "or above 999;").runs("""
                read 0@998s1*20,0@1s2,1@999s3 = 3
                shift(0, 2) = NOT_POSSIBLE
                cues = 0@1s2*1,0@998s1*20,1@999s3*1
                shift(0, 1) = 2
                cues = 0@2s2*1,0@999s1*20,1@999s3*1
                shift(0, 1) = NOT_POSSIBLE
                shift(1, 1) = NOT_POSSIBLE
                shift(1, 99) = NOT_POSSIBLE
                count(10) = 2
                """);
        Check.of("Promise 8", "NONE if ticks is 0, or the scene has no cue.").runs("""
                shift(0, 1) = NONE
                read 0@0s1,1@999s1 = 2
                shift(0, 0) = NONE
                shift(1, 0) = NONE
                shift(2, 0) = NONE
                shift(2, 1) = NONE
                shift(2, -99) = NONE
                shift(5, 99) = NONE
                count(10) = 1
                """);
    }

    private static void cutScene() {
        Check.of("Promise 9", "Removes all cues of a scene. This is an act.").runs("""
                read 0@1s1,1@2s2,0@3s3,2@4s4,0@5s5*5 = 5
                cutScene(0) = 3
                cues = 1@2s2*1,2@4s4*1
                count(10) = 2
                undo() = 1
                cues = 0@1s1*1,1@2s2*1,0@3s3*1,2@4s4*1,0@5s5*5
                """);
        Check.of("Promise 9", "`scene`: 0 to 5").runs("""
                read 0@1s1,5@2s2,3@3s3 = 3
                cutScene(-1) = UNKNOWN
                cutScene(6) = UNKNOWN
                cutScene(0) = 1
                cutScene(5) = 1
                cues = 3@3s3*1
                """);
        Check.of("Promise 9", "Returns how many are removed; UNKNOWN; NONE if there is none.")
                .runs("""
                cutScene(0) = NONE
                cutScene(6) = UNKNOWN
                read 0@1s1,1@2s2,1@3s3 = 3
                cutScene(2) = NONE
                cutScene(1) = 2
                cutScene(1) = NONE
                cutScene(0) = 1
                cutScene(0) = NONE
                cues =
                count(10) = 3
                """);
    }
}
