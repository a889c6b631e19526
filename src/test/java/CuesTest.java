/** Promises 6 to 9, 11 and 12: readCues, removeCue, shift, cutScene, type, clearText. */
public final class CuesTest {
    public static void main(String[] args) {
        order();
        faults();
        goodTexts();
        allOrNone();
        full();
        type();
        removeCue();
        shift();
        cutScene();
        Check.finish();
    }

    private static void order() {
        LentSounds x = new LentSounds();
        Check.due("reading four", Check.read(x, "5@7s0,1@7s3*2,1@7s2*20,0@10s9"), 4);
        Check.cuesAre(x, "1@7s2*20,1@7s3*2,5@7s0*1,0@10s9*1");
        Check.due("the text stays", x.count(11), 29);
        Check.due("reading more", Check.read(x, "0@0s0,2@7s1,0@999s0"), 7);
        Check.cuesAre(x, "0@0s0*1,1@7s2*20,1@7s3*2,2@7s1*1,5@7s0*1,0@10s9*1,0@999s0*1");
        Check.due("states", x.count(10), 2);
    }

    private static void fault(String text, int index) {
        LentSounds x = new LentSounds();
        Check.due("readCues() of '" + text + "'", Check.read(x, text), -100 - index);
        Check.due("cues after a fault", x.count(0), 0);
        Check.due("states after a fault", x.count(10), 0);
        Check.due("the text after a fault", x.count(11), text.length());
    }

    private static void faults() {
        fault("", 0);
        fault("6", 0);
        fault("-1@0s0", 0);
        fault(",", 0);
        fault(" 0@1s1", 0);
        fault("0", 1);
        fault("00@1s1", 1);
        fault("10@1s1", 1);
        fault("0s1", 1);
        fault("0@", 2);
        fault("0@s1", 2);
        fault("0@x", 2);
        fault("0@-1s1", 2);
        fault("0@00s1", 3);
        fault("0@01s1", 3);
        fault("0@0", 3);
        fault("0@1", 3);
        fault("0@1000s1", 5);
        fault("0@9999s1", 5);
        fault("0@999", 5);
        fault("0@1S1", 3);
        fault("0@1s", 4);
        fault("0@1sx", 4);
        fault("0@1s*2", 4);
        fault("0@1s10", 5);
        fault("0@1s00", 5);
        fault("0@1s1 ", 5);
        fault("0@1s1;", 5);
        fault("0@1s1@", 5);
        fault("0@1s1*", 6);
        fault("0@1s1*0", 6);
        fault("0@1s1*01", 6);
        fault("0@1s1*x", 6);
        fault("0@1s1*21", 7);
        fault("0@1s1*30", 7);
        fault("0@1s1*200", 8);
        fault("0@1s1*100", 8);
        fault("0@1s1*1*1", 7);
        fault("0@1s1*20*", 8);
        fault("0@1s1,", 6);
        fault("0@1s1,,", 6);
        fault("0@1s1,6@1s1", 6);
        fault("0@1s1,0@1s1*", 12);
        fault("0@1s1,0@1s1x", 11);
        fault("0@\u0661s1", 2);
        fault("0@1s\u0131", 4);
        fault("\u0000", 0);
    }

    private static void goodTexts() {
        LentSounds x = new LentSounds();
        Check.due("the least", Check.read(x, "0@0s0*1"), 1);
        Check.due("the most", Check.read(x, "5@999s9*20"), 2);
        Check.due("lasting 10", Check.read(x, "1@10s1*10"), 3);
        Check.due("lasting 19", Check.read(x, "1@100s1*19"), 4);
        Check.due("lasting 9", Check.read(x, "1@109s1*9"), 5);
        Check.cuesAre(x, "0@0s0*1,1@10s1*10,1@100s1*19,1@109s1*9,5@999s9*20");
    }

    private static void allOrNone() {
        LentSounds x = Check.board("1@5s2*3");
        Check.due("a cue that is there", Check.read(x, "0@0s0,1@5s2*4"), Check.NOT_POSSIBLE);
        Check.due("twice in the text", Check.read(x, "0@0s0,2@2s2,0@0s0*2"), Check.NOT_POSSIBLE);
        Check.due("a fault comes first", Check.read(x, "1@5s2,"), -106);
        Check.cuesAre(x, "1@5s2*3");
        Check.due("states", x.count(10), 1);
        Check.due("other scene", Check.read(x, "2@5s2"), 2);
        Check.due("other tick", Check.read(x, "1@6s2"), 3);
        Check.due("other sound", Check.read(x, "1@5s1"), 4);
    }

    private static LentSounds boardOf(int cues) {
        LentSounds x = new LentSounds();
        for (int cue = 0; cue < cues; cue++) {
            Check.due("cue " + cue, Check.read(x, "0@" + cue + "s0"), cue + 1);
        }
        return x;
    }

    private static void full() {
        LentSounds x = boardOf(38);
        Check.due("41 cues", Check.read(x, "1@0s0,1@1s0,1@2s0"), Check.FULL);
        Check.due("still", x.count(0), 38);
        Check.due("40 cues", Check.read(x, "1@0s0,1@1s0"), 40);
        Check.due("41 cues", Check.read(x, "1@2s0"), Check.FULL);
        Check.due("48 cues, and one is there", Check.read(x, "2@2s0,2@3s0,2@4s0,2@5s0,"
                + "2@6s0,2@7s0,2@8s0,0@0s0"), Check.NOT_POSSIBLE);
        Check.due("50 cues, and one is twice", Check.read(x, "2@2s0,2@3s0,2@4s0,2@5s0,"
                + "2@6s0,2@7s0,2@8s0,2@9s0,3@1s1,3@1s1"), Check.NOT_POSSIBLE);
        Check.due("50 cues", Check.read(x, "2@2s0,2@3s0,2@4s0,2@5s0,"
                + "2@6s0,2@7s0,2@8s0,2@9s0,3@1s1,3@1s2"), Check.FULL);
        Check.due("a fault comes first", Check.read(x, "1@2s0,6"), -106);
        Check.due("removeCue(0)", x.removeCue(0), 39);
        Check.due("room again", Check.read(x, "5@2s0"), 40);
    }

    private static void type() {
        LentSounds x = new LentSounds();
        Check.due("clearText() of no text", x.clearText(), 0);
        for (int length = 1; length <= 60; length++) {
            Check.due("type()", x.type((char) (length * 1000)), length);
        }
        Check.due("type() into a full text", x.type('0'), Check.FULL);
        Check.due("count(11)", x.count(11), 60);
        Check.due("clearText()", x.clearText(), 60);
        Check.due("clearText() again", x.clearText(), 0);
        Check.due("type()", x.type('0'), 1);
        Check.due("texts are no acts", x.count(10), 0);
        Check.due("a text of 60", Check.read(x, "1@100s1*19,1@101s1*19,1@102s1*19,"
                + "1@103s1*19,1@104s1*19,0@1s1"), 6);
        Check.due("its length", x.count(11), 60);
    }

    private static void removeCue() {
        LentSounds x = Check.board("0@1s1,0@2s2*2,0@3s3");
        Check.due("removeCue(3)", x.removeCue(3), Check.UNKNOWN);
        Check.due("removeCue(-1)", x.removeCue(-1), Check.UNKNOWN);
        Check.due("removeCue(1)", x.removeCue(1), 2);
        Check.cuesAre(x, "0@1s1*1,0@3s3*1");
        Check.due("removeCue(1)", x.removeCue(1), 1);
        Check.due("removeCue(0)", x.removeCue(0), 0);
        Check.due("removeCue(0)", x.removeCue(0), Check.UNKNOWN);
        Check.due("states", x.count(10), 4);
        x.undo();
        x.undo();
        x.undo();
        Check.cuesAre(x, "0@1s1*1,0@2s2*2,0@3s3*1");
    }

    private static void shift() {
        LentSounds x = Check.board("0@99s1*2,0@100s1,1@100s0,3@900s1");
        Check.due("shift(6, 1)", x.shift(6, 1), Check.UNKNOWN);
        Check.due("shift(-1, 100)", x.shift(-1, 100), Check.UNKNOWN);
        Check.due("shift(0, 100)", x.shift(0, 100), Check.BAD_VALUE);
        Check.due("shift(0, -100)", x.shift(0, -100), Check.BAD_VALUE);
        Check.due("shift(2, 100)", x.shift(2, 100), Check.BAD_VALUE);
        Check.due("shift(0, 0)", x.shift(0, 0), Check.NONE);
        Check.due("shift(2, 5)", x.shift(2, 5), Check.NONE);
        Check.due("shift(0, -99)", x.shift(0, -99), 2);
        Check.due("shift(0, -1)", x.shift(0, -1), Check.NOT_POSSIBLE);
        Check.cuesAre(x, "0@0s1*2,0@1s1*1,1@100s0*1,3@900s1*1");
        Check.due("shift(0, 99)", x.shift(0, 99), 2);
        Check.due("shift(0, 2)", x.shift(0, 2), 2);
        Check.cuesAre(x, "1@100s0*1,0@101s1*2,0@102s1*1,3@900s1*1");
        Check.due("shift(0, -1)", x.shift(0, -1), 2);
        Check.cuesAre(x, "0@100s1*2,1@100s0*1,0@101s1*1,3@900s1*1");
        Check.due("shift(3, 99)", x.shift(3, 99), 1);
        Check.due("shift(3, 1)", x.shift(3, 1), Check.NOT_POSSIBLE);
        Check.due("cue(3, 1)", x.cue(3, 1), 999);
        Check.due("undo()", x.undo(), 3);
        Check.due("cue(3, 1)", x.cue(3, 1), 900);
    }

    private static void cutScene() {
        LentSounds x = Check.board("0@1s1,1@2s2,0@3s3,2@4s4,0@5s5*5");
        Check.due("cutScene(6)", x.cutScene(6), Check.UNKNOWN);
        Check.due("cutScene(-1)", x.cutScene(-1), Check.UNKNOWN);
        Check.due("cutScene(5)", x.cutScene(5), Check.NONE);
        Check.due("states", x.count(10), 1);
        Check.due("cutScene(0)", x.cutScene(0), 3);
        Check.cuesAre(x, "1@2s2*1,2@4s4*1");
        Check.due("cutScene(0)", x.cutScene(0), Check.NONE);
        Check.due("undo()", x.undo(), 1);
        Check.cuesAre(x, "0@1s1*1,1@2s2*1,0@3s3*1,2@4s4*1,0@5s5*5");
    }
}
