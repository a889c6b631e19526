/** Promises 13 to 15: undo, keep, restore. */
public final class HistoryTest {
    public static void main(String[] args) {
        undo();
        oldestIsDropped();
        keepAndRestore();
        whatIsNoState();
        Check.finish();
    }

    private static void undo() {
        LentSounds x = new LentSounds();
        Check.due("undo() of nothing", x.undo(), Check.NONE);
        x.setCarrying(5);
        x.setCarrying(6);
        Check.due("undo()", x.undo(), 1);
        Check.due("carrying", x.count(2), 5);
        Check.due("undo()", x.undo(), 0);
        Check.due("carrying", x.count(2), 2);
        Check.due("undo() of nothing", x.undo(), Check.NONE);
    }

    private static void oldestIsDropped() {
        LentSounds x = new LentSounds();
        for (int carrying = 3; carrying < 15; carrying++) {
            x.setCarrying(carrying);
            Check.due("states", x.count(10), Math.min(carrying - 2, 4));
        }
        for (int left = 3; left >= 0; left--) {
            Check.due("undo()", x.undo(), left);
            Check.due("carrying", x.count(2), 10 + left);
        }
        Check.due("undo() of nothing", x.undo(), Check.NONE);
        Check.due("carrying", x.count(2), 10);
    }

    private static void keepAndRestore() {
        LentSounds x = new LentSounds();
        Check.due("restore() of nothing", x.restore(), Check.NONE);
        Check.due("states", x.count(10), 0);
        Check.due("keep()", x.keep(), 0);
        Check.due("states", x.count(10), 0);
        Check.read(x, "0@3s3*4,1@4s4");
        Check.due("restore()", x.restore(), 0);
        Check.due("states", x.count(10), 2);
        Check.due("undo()", x.undo(), 1);
        Check.cuesAre(x, "0@3s3*4,1@4s4*1");
        Check.due("keep()", x.keep(), 2);
        changeAll(x);
        Check.due("restore()", x.restore(), 2);
        Check.cuesAre(x, "0@3s3*4,1@4s4*1");
        firstSettings(x);
        Check.due("undo()", x.undo(), 3);
        Check.due("hands", x.count(1), 3);
        Check.due("takes", x.count(3), 1);
        Check.due("restore() again", x.restore(), 2);
        firstSettings(x);
        Check.due("restore() of what is so already", x.restore(), 2);
        Check.due("states", x.count(10), 4);
    }

    private static void changeAll(LentSounds x) {
        x.setSound(3, 0, 0);
        x.setSound(3, 1, 9);
        x.setSound(3, 2, 9);
        x.setHands(3);
        x.send(0, 3);
        x.setCarrying(9);
        Check.due("take()", x.take(), 0);
        x.cutScene(0);
    }

    private static void firstSettings(LentSounds x) {
        Check.due("shelf", x.sound(3, 0), 3);
        Check.due("charges", x.sound(3, 1), 5);
        Check.due("loudness", x.sound(3, 2), 1);
        Check.due("shelf of hand 0", x.hand(0, 0), 0);
        Check.due("shelf of hand 1", x.hand(1, 0), 1);
        int[] counts = {2, 2, 2, 0, 0, 0, 0};
        for (int what = 0; what < counts.length; what++) {
            Check.due("count(" + what + ")", x.count(what), counts[what]);
        }
    }

    /** The text, the history and the snapshot are not brought back. */
    private static void whatIsNoState() {
        LentSounds x = new LentSounds();
        x.setCarrying(5);
        Check.typeAll(x, "0@1s1");
        x.keep();
        x.undo();
        Check.due("the text", x.count(11), 5);
        Check.due("the snapshot", x.restore(), 0);
        Check.due("carrying", x.count(2), 5);
        x.clearText();
        x.restore();
        Check.due("the text", x.count(11), 0);
        Check.due("states", x.count(10), 2);
        x.setCarrying(7);
        x.keep();
        x.undo();
        Check.due("restore()", x.restore(), 0);
        Check.due("the later snapshot", x.count(2), 7);
    }
}
