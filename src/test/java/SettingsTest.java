/** Promises 1 to 5: a new object, setSound, setHands, send, setCarrying. */
public final class SettingsTest {
    public static void main(String[] args) {
        newBoard();
        setSound();
        setHands();
        handsThatComeBack();
        send();
        setCarrying();
        actsAreRecorded();
        Check.finish();
    }

    private static void newBoard() {
        LentSounds x = new LentSounds();
        for (int sound = 0; sound < 10; sound++) {
            Check.due("sound(" + sound + ", 0)", x.sound(sound, 0), sound % 5);
            Check.due("sound(" + sound + ", 1)", x.sound(sound, 1), 5);
            Check.due("sound(" + sound + ", 2)", x.sound(sound, 2), 1);
            Check.due("sound(" + sound + ", 3)", x.sound(sound, 3), 0);
            Check.due("sound(" + sound + ", 4)", x.sound(sound, 4), 0);
            Check.due("sound(" + sound + ", 5)", x.sound(sound, 5), 0);
        }
        int[] counts = {0, 2, 2, 0, 0, 0, 0, 0, 0, 50, 0, 0};
        for (int what = 0; what < counts.length; what++) {
            Check.due("count(" + what + ")", x.count(what), counts[what]);
        }
        Check.due("hand(0, 0)", x.hand(0, 0), 0);
        Check.due("hand(1, 0)", x.hand(1, 0), 1);
        Check.due("hand(2, 0)", x.hand(2, 0), Check.UNKNOWN);
        Check.due("restore()", x.restore(), Check.NONE);
        Check.due("undo()", x.undo(), Check.NONE);
    }

    private static void setSound() {
        LentSounds x = new LentSounds();
        int[] least = {0, 0, 1};
        int[] most = {4, 30, 9};
        int[] first = {2, 5, 1};
        for (int what = 0; what < 3; what++) {
            String call = "setSound(7, " + what + ", ..)";
            Check.due(call + " too low", x.setSound(7, what, least[what] - 1), Check.BAD_VALUE);
            Check.due(call + " too high", x.setSound(7, what, most[what] + 1), Check.BAD_VALUE);
            Check.due(call + " as it is", x.setSound(7, what, first[what]), Check.NONE);
            Check.due(call + " the most", x.setSound(7, what, most[what]), first[what]);
            Check.due("sound(7, " + what + ")", x.sound(7, what), most[what]);
            Check.due(call + " the least", x.setSound(7, what, least[what]), most[what]);
            Check.due("sound(7, " + what + ")", x.sound(7, what), least[what]);
        }
        Check.due("another sound's charges", x.sound(6, 1), 5);
        Check.due("setSound(-1, 9, 99)", x.setSound(-1, 9, 99), Check.UNKNOWN);
        Check.due("setSound(10, 0, 0)", x.setSound(10, 0, 0), Check.UNKNOWN);
        Check.due("setSound(9, 1, 6)", x.setSound(9, 1, 6), 5);
        Check.due("setSound(0, -1, 1)", x.setSound(0, -1, 1), Check.BAD_VALUE);
        Check.due("setSound(0, 3, 1)", x.setSound(0, 3, 1), Check.BAD_VALUE);
        Check.due("setSound(0, 1, least int)", x.setSound(0, 1, Integer.MIN_VALUE),
                Check.BAD_VALUE);
    }

    private static void setHands() {
        LentSounds x = new LentSounds();
        Check.due("setHands(0)", x.setHands(0), Check.BAD_VALUE);
        Check.due("setHands(5)", x.setHands(5), Check.BAD_VALUE);
        Check.due("setHands(2)", x.setHands(2), Check.NONE);
        Check.due("setHands(4)", x.setHands(4), 2);
        Check.due("count(1)", x.count(1), 4);
        Check.due("hand(3, 0)", x.hand(3, 0), 3);
        Check.due("hand(4, 0)", x.hand(4, 0), Check.UNKNOWN);
        Check.due("setHands(1)", x.setHands(1), 4);
        Check.due("hand(1, 0)", x.hand(1, 0), Check.UNKNOWN);
    }

    private static void handsThatComeBack() {
        LentSounds x = new LentSounds();
        x.send(0, 4);
        x.send(1, 4);
        x.setHands(1);
        x.setHands(3);
        Check.due("the hand that stayed", x.hand(0, 0), 4);
        Check.due("a hand that was there before", x.hand(1, 0), 1);
        Check.due("a new hand", x.hand(2, 0), 2);
        x.undo();
        x.undo();
        Check.due("the hand after undo", x.hand(1, 0), 4);
    }

    private static void send() {
        LentSounds x = new LentSounds();
        Check.due("send(1, 4)", x.send(1, 4), 1);
        Check.due("hand(1, 0)", x.hand(1, 0), 4);
        Check.due("hand(0, 0)", x.hand(0, 0), 0);
        Check.due("send(1, 4)", x.send(1, 4), Check.NONE);
        Check.due("send(1, 0)", x.send(1, 0), 4);
        Check.due("send(2, 0)", x.send(2, 0), Check.UNKNOWN);
        Check.due("send(-1, 0)", x.send(-1, 0), Check.UNKNOWN);
        Check.due("send(0, 5)", x.send(0, 5), Check.UNKNOWN);
        Check.due("send(0, -1)", x.send(0, -1), Check.UNKNOWN);
    }

    private static void setCarrying() {
        LentSounds x = new LentSounds();
        Check.due("setCarrying(-1)", x.setCarrying(-1), Check.BAD_VALUE);
        Check.due("setCarrying(21)", x.setCarrying(21), Check.BAD_VALUE);
        Check.due("setCarrying(2)", x.setCarrying(2), Check.NONE);
        Check.due("setCarrying(20)", x.setCarrying(20), 2);
        Check.due("setCarrying(0)", x.setCarrying(0), 20);
        Check.due("count(2)", x.count(2), 0);
    }

    private static void actsAreRecorded() {
        LentSounds x = new LentSounds();
        x.setSound(0, 1, 5);
        x.setSound(0, 1, 31);
        x.setHands(2);
        x.setHands(9);
        x.send(0, 0);
        x.send(7, 0);
        x.setCarrying(2);
        x.setCarrying(99);
        Check.due("states after what is no act", x.count(10), 0);
        x.setSound(0, 1, 6);
        x.setHands(3);
        x.send(0, 1);
        x.setCarrying(3);
        Check.due("states after four acts", x.count(10), 4);
        Check.due("undo()", x.undo(), 3);
        Check.due("carrying", x.count(2), 2);
        Check.due("undo()", x.undo(), 2);
        Check.due("shelf of hand 0", x.hand(0, 0), 0);
        Check.due("undo()", x.undo(), 1);
        Check.due("hands", x.count(1), 2);
        Check.due("undo()", x.undo(), 0);
        Check.due("charges", x.sound(0, 1), 5);
    }
}
