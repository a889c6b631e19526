/** A take (the terms): which cues are missed, and what is played by whom. */
final class TakeRulesTest {
    private static final String TAKE = "A TAKE";

    private TakeRulesTest() {
    }

    static void run() {
        order();
        beginning();
        firstReason();
        noCharge();
        carrying();
        eachCarrying();
        latestUse();
        lastsStill();
        noHand();
        nearestHand();
        lowestHand();
        whatPlayingDoes();
        freeAtFirst();
        behind();
        ear();
    }

    private static void order() {
        Check.of(TAKE, "In a take, the cues are done in their order.").runs("""
                setSound(0, 1, 1) = 5
                read 0@5s0,0@2s0 = 2
                cue(0, 1) = 2
                cue(0, 5) = 0
                cue(1, 5) = 1
                """);
        Check.that("at one tick the lower scene, and in it the lower sound, goes first");
        new Board().runs("""
                setHands(1) = 2
                read 1@3s0,0@3s5 = 2
                cue(0, 2) = 5
                cue(0, 5) = 0
                cue(1, 5) = 3
                """);
        new Board().runs("""
                setHands(1) = 2
                read 0@3s5,0@3s0 = 2
                cue(0, 2) = 0
                cue(0, 5) = 0
                cue(1, 5) = 3
                """);
    }

    /** The first take ends at 1019: the sound is in the scene 1 then, and the hand is busy. */
    private static void beginning() {
        Check.of(TAKE, "At its beginning all hands are free, at their shelves, and no sound is in"
                + " any scene.").runs("""
                setHands(1) = 2
                read 0@0s0,1@999s0*20 = 2
                setCarrying(20) = 2
                take() = 0
                cue(0, 5) = 0
                cue(0, 6) = 0
                scene(0, 4) = 0
                scene(1, 4) = 1
                take() = 0
                sound(0, 1) = 1
                send(0, 1) = 0
                cue(0, 5) = 3
                cue(1, 5) = 0
                cue(1, 6) = 1
                """);
    }

    private static void firstReason() {
        String sentence = "A cue is missed for the first of these reasons that holds:";
        Board allHold = Check.of(TAKE, sentence);
        allHold.runs("""
                setHands(1) = 2
                read 0@4s4*9,1@5s4 = 2
                setSound(4, 1, 1) = 5
                cue(0, 5) = 0
                cue(1, 5) = 1
                """);
        Check.that("of the reasons 2 and 3, 2 is told");
        allHold.runs("""
                setSound(4, 1, 2) = 1
                cue(1, 5) = 2
                """);
        Check.that("of the reasons 1 and 2, 1 is told");
        allHold.runs("""
                setHands(2) = 1
                send(1, 4) = 1
                cue(1, 5) = 2
                setSound(4, 1, 1) = 2
                cue(1, 5) = 1
                """);
        Check.that("of the reasons 1 and 3, 1 is told");
        new Board().runs("""
                setHands(1) = 2
                read 1@3s4 = 1
                cue(0, 5) = 3
                setSound(4, 1, 0) = 5
                cue(0, 5) = 1
                """);
    }

    private static void noCharge() {
        Check.of(TAKE, "- 1 its sound has no charge;").runs("""
                read 0@0s0,0@1s0,0@2s0,0@2s1 = 4
                setSound(0, 1, 2) = 5
                cue(0, 5) = 0
                cue(1, 5) = 0
                cue(2, 5) = 1
                cue(3, 5) = 0
                setSound(0, 1, 3) = 2
                cue(2, 5) = 0
                setSound(0, 1, 1) = 3
                cue(0, 5) = 0
                cue(1, 5) = 1
                cue(2, 5) = 1
                setSound(0, 1, 0) = 1
                cue(0, 5) = 1
                cue(2, 5) = 1
                cue(3, 5) = 0
                """);
    }

    /** The cue of the scene 0 ends at 3; a hand is there all the time. */
    private static void carrying() {
        Check.of(TAKE, "- 2 its sound is not there yet: it was used in another scene the latest in"
                + " this take, and the tick of this one less the end of that cue is fewer than the"
                + " carrying (0 to 20; at first 2);").runs("""
                send(1, 0) = 1
                read 0@0s0*3,1@4s0 = 2
                cue(1, 5) = 2
                shift(1, 1) = 1
                cue(1, 5) = 0
                setCarrying(3) = 2
                cue(1, 5) = 2
                setCarrying(0) = 3
                shift(1, -2) = 1
                cue(1, 5) = 0
                setCarrying(1) = 0
                cue(1, 5) = 2
                setCarrying(20) = 1
                shift(1, 19) = 1
                cue(1, 1) = 22
                cue(1, 5) = 2
                shift(1, 1) = 1
                cue(1, 5) = 0
                """);
        Check.that("each sound is in a scene of its own, whatever its shelf and its hand");
        new Board().runs("""
                read 0@5s7,1@7s7,2@9s2,2@20s7,3@21s1,4@31s0 = 6
                cue(0, 4) = 1
                cue(1, 5) = 2
                cue(2, 5) = 0
                cue(3, 5) = 0
                cue(4, 5) = 0
                cue(5, 5) = 0
                scene(1, 4) = 0
                scene(2, 4) = 1
                scene(3, 4) = 0
                scene(4, 4) = 0
                """);
        Check.that("a scene below the one that used the sound is another one too");
        new Board().runs("""
                send(1, 0) = 1
                read 5@0s0*3,0@4s0 = 2
                cue(1, 5) = 2
                shift(0, 1) = 1
                cue(1, 5) = 0
                """);
    }

    private static void eachCarrying() {
        for (int carrying = 0; carrying <= 20; carrying++) {
            Check.that("a carrying of " + carrying);
            new Board().runs("setCarrying(" + carrying + ")\n read 2@1s0*4,3@" + (5 + carrying)
                    + "s0 = 2\n cue(1, 5) = 0\n shift(3, -1) = 1\n cue(1, 5) = 2");
        }
    }

    private static void latestUse() {
        Check.that("only the latest scene counts, not the one before it");
        new Board().runs("""
                read 0@0s0,1@3s0,1@4s0,0@5s0,0@7s0,0@8s0 = 6
                setSound(0, 1, 9) = 5
                cue(0, 5) = 0
                cue(1, 5) = 0
                cue(2, 5) = 0
                cue(3, 5) = 2
                cue(4, 5) = 0
                cue(5, 5) = 0
                """);
        Check.that("a cue that is missed has not used its sound");
        new Board().runs("""
                read 0@0s0,1@1s0*20,0@2s0 = 3
                cue(0, 5) = 0
                cue(1, 5) = 2
                cue(2, 5) = 0
                """);
        new Board().runs("""
                setHands(1) = 2
                read 0@3s4*20,1@4s4 = 2
                cue(0, 5) = 3
                cue(1, 5) = 0
                scene(1, 4) = 0
                """);
        Check.that("other sounds need no carrying");
        new Board().runs("""
                setCarrying(20) = 2
                read 0@0s0*3,1@0s5,1@0s1,1@3s5 = 4
                send(1, 0) = 1
                cue(0, 5) = 0
                cue(1, 5) = 3
                cue(2, 5) = 0
                cue(3, 5) = 0
                """);
    }

    private static void lastsStill() {
        Check.of(TAKE, "or that cue, of whichever scene, lasts still;").runs("""
                send(1, 0) = 1
                read 0@0s0*3,0@2s0 = 2
                cue(1, 5) = 2
                shift(0, 5) = 2
                cue(1, 5) = 2
                read 0@8s0 = 3
                cue(2, 5) = 0
                """);
        Check.that("with no carrying a sound is there at the end of the cue of another scene");
        new Board().runs("""
                send(1, 0) = 1
                setCarrying(0) = 2
                read 0@0s0*20,1@19s0,2@20s0 = 3
                cue(1, 5) = 2
                cue(2, 5) = 0
                """);
        Check.that("at the very tick of the cue it lasts still");
        new Board().runs("""
                send(1, 0) = 1
                setCarrying(0) = 2
                read 0@9s0,1@9s0,1@10s0 = 3
                cue(0, 5) = 0
                cue(1, 5) = 2
                cue(2, 5) = 0
                """);
    }

    private static void noHand() {
        Check.of(TAKE, "- 3 no hand can be there: a hand can, if it is free,").runs("""
                setHands(1) = 2
                read 0@0s0*5,0@4s5 = 2
                cue(1, 5) = 3
                removeCue(1) = 1
                read 0@5s5 = 2
                cue(1, 5) = 0
                cue(1, 6) = 0
                """);
        Check.of(TAKE, "and has at least as many ticks from then on up to the tick of this cue as"
                + " it walks to the shelf of the sound.").runs("""
                setHands(1) = 2
                read 0@2s3 = 1
                cue(0, 5) = 3
                shift(0, 1) = 1
                cue(0, 5) = 0
                cue(0, 6) = 3
                cutScene(0) = 1
                read 0@0s0*5,1@6s2 = 2
                cue(1, 5) = 3
                shift(1, 1) = 1
                cue(1, 5) = 0
                cue(1, 6) = 2
                shift(1, 1) = 1
                cue(1, 5) = 0
                """);
    }

    private static void nearestHand() {
        Check.of(TAKE, "Otherwise it is played by that hand, of those that can be there, which"
                + " walks the shortest way,").runs("""
                setHands(4) = 2
                send(2, 0) = 2
                send(1, 0) = 1
                read 0@10s2*5 = 1
                cue(0, 4) = 3
                cue(0, 6) = 1
                send(0, 2) = 0
                cue(0, 4) = 0
                cue(0, 6) = 0
                read 0@9s7*3 = 2
                cue(0, 4) = 0
                cue(1, 4) = 3
                cue(1, 6) = 1
                removeCue(0) = 1
                send(0, 3) = 2
                cue(0, 4) = 0
                send(0, 4) = 3
                cue(0, 4) = 3
                """);
        Check.that("a hand far off that is there in time plays, if the near one is busy");
        new Board().runs("""
                read 0@4s1*9,0@5s6 = 2
                cue(0, 4) = 1
                cue(1, 4) = 0
                cue(1, 6) = 1
                send(0, 4) = 0
                cue(1, 4) = 0
                cue(1, 6) = 3
                """);
    }

    private static void lowestHand() {
        Check.of(TAKE, "of several the lowest one:").runs("""
                setHands(4) = 2
                send(2, 0) = 2
                read 0@10s2*5 = 1
                cue(0, 4) = 1
                cue(0, 6) = 1
                send(0, 3) = 0
                cue(0, 4) = 0
                send(0, 2) = 3
                send(1, 2) = 1
                cue(0, 4) = 0
                send(0, 0) = 2
                send(1, 0) = 2
                send(3, 4) = 3
                cue(0, 4) = 0
                cue(0, 6) = 2
                """);
        Check.that("a free hand that is higher plays, if the lowest of the nearest is busy");
        new Board().runs("""
                send(1, 0) = 1
                read 0@0s0*9,0@1s5 = 2
                cue(0, 4) = 0
                cue(1, 4) = 1
                """);
    }

    private static void whatPlayingDoes() {
        Check.of(TAKE, "the hand is at this shelf, and free from the end of the cue on (its tick"
                + " and what it lasts);").runs("""
                setHands(1) = 2
                read 0@2s2*20 = 1
                hand(0, 3) = 22
                hand(0, 4) = 2
                hand(0, 0) = 0
                read 1@23s9 = 2
                cue(1, 5) = 3
                shift(1, 1) = 1
                cue(1, 5) = 0
                cue(1, 6) = 2
                hand(0, 3) = 25
                hand(0, 4) = 4
                read 0@999s0*20 = 3
                hand(0, 3) = 1019
                """);
        Check.of(TAKE, "the sound has one charge less, and is in the scene of the cue until its"
                + " end.").runs("""
                read 0@0s0*4,1@4s0,1@6s0,0@1s9 = 4
                setHands(1) = 2
                cue(1, 5) = 3
                cue(2, 5) = 2
                cue(3, 5) = 0
                take() = 2
                sound(0, 1) = 3
                sound(9, 1) = 5
                sound(5, 1) = 5
                count(9) = 48
                """);
    }

    private static void freeAtFirst() {
        Check.of(TAKE, "A hand is free from the tick 0 on at first.").runs("""
                setHands(1) = 2
                hand(0, 3) = 0
                read 0@0s0 = 1
                cue(0, 5) = 0
                removeCue(0) = 0
                read 0@3s4 = 1
                cue(0, 5) = 3
                hand(0, 3) = 0
                shift(0, 1) = 1
                cue(0, 5) = 0
                """);
    }

    private static void behind() {
        Check.of(TAKE, "Behind a take the charges are as they came to be,").runs("""
                read 0@0s0,0@9s0,0@9s1 = 3
                setSound(0, 1, 3) = 5
                take() = 0
                sound(0, 1) = 1
                sound(1, 1) = 4
                take() = 1
                sound(0, 1) = 0
                sound(1, 1) = 3
                take() = 2
                sound(0, 1) = 0
                """);
        Check.of(TAKE, "the hands stay at their shelves,").runs("""
                read 0@3s4,0@20s3 = 2
                cue(0, 4) = 1
                hand(1, 2) = 4
                take() = 0
                hand(0, 0) = 0
                hand(1, 0) = 3
                cue(0, 6) = 1
                hand(1, 2) = 2
                send(0, 2) = 0
                take() = 0
                hand(0, 0) = 3
                hand(1, 0) = 4
                """);
        Check.of(TAKE, "and the count of takes has grown by 1.").runs("""
                take() = NOT_POSSIBLE
                count(3) = 0
                read 0@0s4 = 1
                take() = 1
                count(3) = 1
                take() = 1
                count(3) = 2
                """);
    }

    private static void ear() {
        Check.of(TAKE, "What the ear misses is the sum of the loudness of all missed cues.")
                .runs("""
                read 0@0s4,1@0s4,0@0s0,0@0s3 = 4
                count(8) = 3
                setSound(4, 2, 9) = 1
                setSound(3, 2, 4) = 1
                setSound(0, 2, 8) = 1
                count(8) = 22
                take() = 3
                count(6) = 22
                setSound(4, 2, 2) = 9
                count(6) = 22
                count(8) = 8
                """);
    }
}
