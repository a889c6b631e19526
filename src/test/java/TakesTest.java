/** Promise 10 and what is told of a take: promises 16 to 23. */
public final class TakesTest {
    public static void main(String[] args) {
        noCharge();
        carrying();
        lastsStill();
        missedCuesDoNotUse();
        noHand();
        nearestHand();
        reasonsInTheirOrder();
        loans();
        take();
        handsStayWhereTheyCame();
        ifHands();
        cleanTakes();
        missed();
        Check.finish();
    }

    private static void reasons(LentSounds x, int... want) {
        for (int cue = 0; cue < want.length; cue++) {
            Check.due("reason of " + Check.cueText(x, cue), x.cue(cue, 5), want[cue]);
            Check.holds("a missed cue has no hand", (want[cue] != 0) == (x.cue(cue, 4) == -5));
            Check.holds("a missed cue has no way", (want[cue] != 0) == (x.cue(cue, 6) == -5));
        }
    }

    private static void noCharge() {
        LentSounds x = Check.board("0@0s0,0@1s0,0@2s0");
        x.setSound(0, 1, 2);
        reasons(x, 0, 0, 1);
        Check.due("sound(0, 3)", x.sound(0, 3), 3);
        Check.due("sound(0, 4)", x.sound(0, 4), 2);
        Check.due("sound(0, 5)", x.sound(0, 5), 1);
        x.setSound(0, 1, 0);
        reasons(x, 1, 1, 1);
        Check.due("sound(0, 5)", x.sound(0, 5), 3);
        x.setSound(0, 1, 3);
        reasons(x, 0, 0, 0);
        Check.due("sound(0, 5)", x.sound(0, 5), 0);
    }

    /** The cue of scene 0 ends at 3; hands stand near by all the time. */
    private static void carrying() {
        int[] firstThatIsThere = {3, 5, 8, 23};
        int[] carryings = {0, 2, 5, 20};
        for (int i = 0; i < carryings.length; i++) {
            for (int tick = 1; tick < 25; tick++) {
                LentSounds x = Check.board("0@0s0*3,1@" + tick + "s0");
                x.send(1, 0);
                x.setCarrying(carryings[i]);
                reasons(x, 0, tick < firstThatIsThere[i] ? 2 : 0);
            }
        }
    }

    private static void lastsStill() {
        LentSounds x = Check.board("0@0s0*3,0@2s0,0@3s0,0@4s0");
        x.send(1, 0);
        x.setCarrying(20);
        reasons(x, 0, 2, 0, 0);
        LentSounds other = Check.board("0@0s0*20,1@19s0,2@20s0");
        other.send(1, 0);
        other.setCarrying(0);
        reasons(other, 0, 2, 0);
    }

    /** The one of scene 1 is missed, so the sound is in scene 0 still. */
    private static void missedCuesDoNotUse() {
        LentSounds x = Check.board("0@0s0*1,1@1s0*20,0@2s0*1");
        reasons(x, 0, 2, 0);
        LentSounds back = Check.board("0@0s0,1@3s0,0@4s0,1@5s0,0@6s0");
        reasons(back, 0, 0, 2, 0, 2);
    }

    /** The sound 4 and the sound 9 stand on shelf 4; each step to another shelf takes a tick. */
    private static void noHand() {
        LentSounds x = Check.board("0@3s4*5,0@9s3,0@8s0,0@8s9,0@9s1");
        x.setHands(1);
        Check.cuesAre(x, "0@3s4*5,0@8s0*1,0@8s9*1,0@9s1*1,0@9s3*1");
        reasons(x, 3, 0, 3, 3, 3);
        x.send(0, 1);
        reasons(x, 0, 3, 0, 3, 3);
        x.shift(0, 1);
        reasons(x, 0, 3, 0, 3, 3);
        x.shift(0, -2);
        reasons(x, 3, 0, 3, 3, 3);
        x.shift(0, 1);
        x.setHands(2);
        reasons(x, 0, 0, 0, 3, 3);
        Check.due("cue(1, 4)", x.cue(1, 4), 1);
        Check.due("cue(2, 4)", x.cue(2, 4), 0);
        Check.due("hand(0, 3)", x.hand(0, 3), 9);
        Check.due("hand(0, 4)", x.hand(0, 4), 4);
        Check.due("hand(1, 3)", x.hand(1, 3), 9);
        Check.due("hand(1, 4)", x.hand(1, 4), 0);
    }

    private static void nearestHand() {
        LentSounds x = Check.board("0@10s2*5");
        x.setHands(4);
        x.send(2, 0);
        Check.due("of two as near the lowest", x.cue(0, 4), 1);
        Check.due("its way", x.cue(0, 6), 1);
        x.send(3, 2);
        Check.due("the nearest", x.cue(0, 4), 3);
        Check.due("its way", x.cue(0, 6), 0);
        Check.due("the free tick of who plays", x.hand(3, 3), 15);
        Check.due("the free tick of who doesn't", x.hand(0, 3), 0);
        Check.read(x, "0@12s7");
        Check.due("the nearest is busy", x.cue(1, 4), 1);
        Check.due("hand(1, 1)", x.hand(1, 1), 1);
        Check.due("hand(1, 2)", x.hand(1, 2), 1);
        Check.due("hand(1, 4)", x.hand(1, 4), 2);
        Check.due("hand(1, 0)", x.hand(1, 0), 1);
        Check.due("hand(4, 0)", x.hand(4, 0), Check.UNKNOWN);
        Check.due("hand(-1, 5)", x.hand(-1, 5), Check.UNKNOWN);
        Check.due("hand(0, 5)", x.hand(0, 5), Check.BAD_VALUE);
        Check.due("hand(0, -1)", x.hand(0, -1), Check.BAD_VALUE);
    }

    private static void reasonsInTheirOrder() {
        LentSounds x = Check.board("0@4s4*9,1@5s4");
        x.setHands(1);
        x.setSound(4, 1, 1);
        reasons(x, 0, 1);
        x.setSound(4, 1, 2);
        reasons(x, 0, 2);
        x.shift(1, 8);
        reasons(x, 0, 2);
        x.shift(1, 1);
        reasons(x, 0, 2);
        x.shift(1, 1);
        reasons(x, 0, 0);
    }

    private static void loans() {
        LentSounds x = Check.board("0@0s0,1@3s0,1@5s0,2@6s0,2@9s0,0@20s1");
        reasons(x, 0, 0, 0, 2, 0, 0);
        int[] cues = {2, 2, 2, 0};
        int[] firsts = {0, 3, 6, -5};
        int[] ends = {21, 6, 10, -5};
        int[] misses = {0, 0, 1, 0};
        int[] lent = {0, 1, 1, 0};
        for (int scene = 0; scene < 4; scene++) {
            Check.due("scene(" + scene + ", 0)", x.scene(scene, 0), cues[scene]);
            Check.due("scene(" + scene + ", 1)", x.scene(scene, 1), firsts[scene]);
            Check.due("scene(" + scene + ", 2)", x.scene(scene, 2), ends[scene]);
            Check.due("scene(" + scene + ", 3)", x.scene(scene, 3), misses[scene]);
            Check.due("scene(" + scene + ", 4)", x.scene(scene, 4), lent[scene]);
        }
        Check.due("scene(6, 0)", x.scene(6, 0), Check.UNKNOWN);
        Check.due("scene(-1, 5)", x.scene(-1, 5), Check.UNKNOWN);
        Check.due("scene(0, 5)", x.scene(0, 5), Check.BAD_VALUE);
        Check.due("scene(0, -1)", x.scene(0, -1), Check.BAD_VALUE);
        LentSounds longest = Check.board("0@0s0*20,0@5s1*2");
        Check.due("the greatest end is not the last", longest.scene(0, 2), 20);
    }

    private static void take() {
        LentSounds x = new LentSounds();
        Check.due("take() without cues", x.take(), Check.NOT_POSSIBLE);
        Check.due("states", x.count(10), 0);
        Check.read(x, "0@0s0*2,1@1s0,1@4s1,2@4s9");
        x.setSound(0, 2, 4);
        x.setSound(9, 2, 9);
        x.setSound(9, 1, 0);
        Check.due("count(7)", x.count(7), 2);
        Check.due("count(8)", x.count(8), 13);
        Check.due("telling changes nothing", x.sound(0, 1), 5);
        Check.due("take()", x.take(), 2);
        int[] counts = {4, 2, 2, 1, 2, 2, 13, 2, 13, 43, 4};
        for (int what = 0; what < counts.length; what++) {
            Check.due("count(" + what + ")", x.count(what), counts[what]);
        }
        Check.due("sound(0, 1)", x.sound(0, 1), 4);
        Check.due("sound(1, 1)", x.sound(1, 1), 4);
        Check.due("take()", x.take(), 2);
        Check.due("count(3)", x.count(3), 2);
        Check.due("count(4)", x.count(4), 4);
        Check.due("count(5)", x.count(5), 4);
        Check.due("count(6)", x.count(6), 26);
        x.undo();
        Check.due("count(3)", x.count(3), 1);
        Check.due("count(4)", x.count(4), 2);
        Check.due("count(5)", x.count(5), 2);
        Check.due("count(6)", x.count(6), 13);
        Check.due("sound(0, 1)", x.sound(0, 1), 4);
    }

    private static void handsStayWhereTheyCame() {
        LentSounds x = Check.board("0@3s4,0@20s3");
        Check.due("cue(0, 4)", x.cue(0, 4), 1);
        Check.due("hand(1, 2)", x.hand(1, 2), 4);
        Check.due("take()", x.take(), 0);
        Check.due("hand(0, 0)", x.hand(0, 0), 0);
        Check.due("hand(1, 0)", x.hand(1, 0), 3);
        Check.due("all hands are free from 0 on again", x.cue(0, 5), 0);
        Check.due("cue(0, 6)", x.cue(0, 6), 1);
    }

    private static void ifHands() {
        LentSounds x = new LentSounds();
        Check.due("ifHands(0)", x.ifHands(0), Check.BAD_VALUE);
        Check.due("ifHands(5)", x.ifHands(5), Check.BAD_VALUE);
        Check.due("ifHands(1)", x.ifHands(1), 0);
        Check.read(x, "0@0s0,0@0s1,0@0s2,0@0s3");
        for (int sound = 0; sound < 4; sound++) {
            x.setSound(sound, 2, sound + 2);
        }
        int[] misses = {12, 9, 5, 0};
        for (int hands = 1; hands <= 4; hands++) {
            Check.due("ifHands(" + hands + ")", x.ifHands(hands), misses[hands - 1]);
        }
        x.send(1, 4);
        Check.due("the second hand is elsewhere", x.ifHands(2), 12);
        Check.due("ifHands changes nothing", x.count(1), 2);
        x.setHands(1);
        Check.due("a second one is new", x.ifHands(2), 9);
    }

    private static void cleanTakes() {
        LentSounds x = new LentSounds();
        Check.due("cleanTakes() without cues", x.cleanTakes(), Check.NOT_POSSIBLE);
        Check.read(x, "0@0s0");
        Check.due("cleanTakes()", x.cleanTakes(), 5);
        x.setSound(0, 1, 30);
        Check.due("cleanTakes()", x.cleanTakes(), 30);
        Check.due("cleanTakes changes nothing", x.sound(0, 1), 30);
        x.setSound(0, 1, 0);
        Check.due("cleanTakes()", x.cleanTakes(), 0);
        x.setSound(0, 1, 5);
        Check.read(x, "0@9s1");
        x.setHands(1);
        Check.due("the hand stands elsewhere then", x.cleanTakes(), 1);
    }

    private static void missed() {
        LentSounds x = Check.board("0@0s4,0@1s1,0@1s9,0@2s1,0@2s4,1@2s1");
        Check.due("missed(-1)", x.missed(-1), Check.BAD_VALUE);
        Check.due("missed(0)", x.missed(0), 0);
        Check.due("missed(1)", x.missed(1), 2);
        Check.due("missed(2)", x.missed(2), 4);
        Check.due("missed(3)", x.missed(3), 5);
        Check.due("missed(4)", x.missed(4), Check.NONE);
        Check.due("missed(most int)", x.missed(Integer.MAX_VALUE), Check.NONE);
        Check.due("count(7)", x.count(7), 4);
        Check.due("cue(6, 0)", x.cue(6, 0), Check.UNKNOWN);
        Check.due("cue(-1, 9)", x.cue(-1, 9), Check.UNKNOWN);
        Check.due("cue(0, 7)", x.cue(0, 7), Check.BAD_VALUE);
        Check.due("cue(0, -1)", x.cue(0, -1), Check.BAD_VALUE);
        Check.due("sound(10, 0)", x.sound(10, 0), Check.UNKNOWN);
        Check.due("sound(-1, 6)", x.sound(-1, 6), Check.UNKNOWN);
        Check.due("sound(0, 6)", x.sound(0, 6), Check.BAD_VALUE);
        Check.due("sound(0, -1)", x.sound(0, -1), Check.BAD_VALUE);
        Check.due("count(12)", x.count(12), Check.BAD_VALUE);
        Check.due("count(-1)", x.count(-1), Check.BAD_VALUE);
    }
}
