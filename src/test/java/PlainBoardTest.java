/** All promises: many runs of calls, each answer compared with that of the plain board. */
public final class PlainBoardTest {
    private static final int RUNS = 1500;
    private static final int CALLS = 512;
    private static final int[] WILD = {Integer.MIN_VALUE, -101, -100, -2, -1, 100, 1000, 1 << 16,
        Integer.MAX_VALUE};

    private final LentSounds x = new LentSounds();
    private final PlainBoard plain = new PlainBoard();
    private final int furthestTick;
    private long seed;
    private int calls = 0;

    private PlainBoardTest(int run) {
        seed = run * 7919L + 1;
        int[] furthest = {3, 12, 40, 150, 999};
        furthestTick = furthest[run % furthest.length];
    }

    public static void main(String[] args) {
        for (int run = 0; run < RUNS && Check.wrongSoFar() == 0; run++) {
            PlainBoardTest test = new PlainBoardTest(run);
            while (test.calls < CALLS && Check.wrongSoFar() == 0) {
                test.step();
            }
            Check.holds("run " + run + " agrees", Check.wrongSoFar() == 0);
        }
        Check.finish();
    }

    /** The same numbers each time, so that a fault shows again. */
    private int pick(int bound) {
        seed = seed * 6364136223846793005L + 1442695040888963407L;
        return (int) ((seed >>> 33) % bound);
    }

    /** Mostly a number from 0 to the bound itself, which is often just outside. */
    private int about(int bound) {
        int sort = pick(40);
        return sort == 0 ? WILD[pick(WILD.length)] : sort == 1 ? bound : pick(bound);
    }

    private void due(String call, int got, int want) {
        calls++;
        Check.due("call " + calls + " " + call, got, want);
    }

    private void step() {
        int sort = pick(100);
        if (sort < 6) {
            typeText();
        } else if (sort < 36) {
            act();
        } else if (sort < 44) {
            goBack();
        } else {
            ask();
        }
    }

    private String someText() {
        StringBuilder text = new StringBuilder();
        int cues = 1 + pick(9);
        for (int cue = 0; cue < cues; cue++) {
            text.append(cue == 0 ? "" : ",").append(pick(6)).append('@')
                    .append(pick(furthestTick + 1)).append('s').append(pick(10));
            if (pick(2) == 0) {
                text.append('*').append(pick(8) == 0 ? 20 : 1 + pick(5));
            }
        }
        if (pick(6) == 0) {
            String signs = "0123456789@s*,, x";
            text.setCharAt(pick(text.length()), signs.charAt(pick(signs.length())));
        }
        text.setLength(Math.min(text.length(), pick(6) == 0 ? pick(61) : 61));
        int last = text.lastIndexOf(",");
        if (text.length() == 61 && last > 0 && pick(4) > 0) {
            text.setLength(last);
        }
        return text.toString();
    }

    private void typeText() {
        if (pick(12) > 0) {
            due("clearText()", x.clearText(), plain.clearText());
        }
        for (char c : someText().toCharArray()) {
            due("type(" + c + ")", x.type(c), plain.type(c));
        }
        due("readCues()", x.readCues(), plain.readCues());
    }

    private void act() {
        int a = about(10);
        switch (pick(12)) {
            case 0, 1, 2 -> {
                int what = about(3);
                int[] bounds = {5, 31, 10};
                int value = about(what >= 0 && what < 3 ? bounds[what] : 5);
                due("setSound(" + a + ", " + what + ", " + value + ")",
                        x.setSound(a, what, value), plain.setSound(a, what, value));
            }
            case 3 -> {
                int hands = about(5);
                due("setHands(" + hands + ")", x.setHands(hands), plain.setHands(hands));
            }
            case 4 -> {
                int hand = about(4);
                int shelf = about(5);
                due("send(" + hand + ", " + shelf + ")", x.send(hand, shelf),
                        plain.send(hand, shelf));
            }
            case 5 -> {
                int ticks = pick(3) == 0 ? about(21) : about(4);
                due("setCarrying(" + ticks + ")", x.setCarrying(ticks), plain.setCarrying(ticks));
            }
            case 6 -> due("readCues()", x.readCues(), plain.readCues());
            case 7 -> {
                int cue = about(12);
                due("removeCue(" + cue + ")", x.removeCue(cue), plain.removeCue(cue));
            }
            case 8, 9 -> {
                int scene = about(6);
                int by = pick(2) == 0 ? about(100) - pick(100) : pick(7) - 3;
                due("shift(" + scene + ", " + by + ")", x.shift(scene, by),
                        plain.shift(scene, by));
            }
            case 10 -> {
                int scene = pick(8) == 0 ? about(6) : 6;
                due("cutScene(" + scene + ")", x.cutScene(scene), plain.cutScene(scene));
            }
            default -> due("take()", x.take(), plain.take());
        }
    }

    private void goBack() {
        switch (pick(5)) {
            case 0, 1 -> due("undo()", x.undo(), plain.undo());
            case 2, 3 -> due("keep()", x.keep(), plain.keep());
            default -> due("restore()", x.restore(), plain.restore());
        }
    }

    private void ask() {
        switch (pick(9)) {
            case 0, 1 -> {
                int cue = pick(3) == 0 ? about(41) : about(10);
                int what = about(7);
                due("cue(" + cue + ", " + what + ")", x.cue(cue, what), plain.cue(cue, what));
            }
            case 2 -> {
                int sound = about(10);
                int what = about(6);
                due("sound(" + sound + ", " + what + ")", x.sound(sound, what),
                        plain.sound(sound, what));
            }
            case 3 -> {
                int hand = about(4);
                int what = about(5);
                due("hand(" + hand + ", " + what + ")", x.hand(hand, what),
                        plain.hand(hand, what));
            }
            case 4 -> {
                int scene = about(6);
                int what = about(5);
                due("scene(" + scene + ", " + what + ")", x.scene(scene, what),
                        plain.scene(scene, what));
            }
            case 5 -> {
                int rank = about(8);
                due("missed(" + rank + ")", x.missed(rank), plain.missed(rank));
            }
            case 6 -> {
                int hands = about(5);
                due("ifHands(" + hands + ")", x.ifHands(hands), plain.ifHands(hands));
            }
            case 7 -> due("cleanTakes()", x.cleanTakes(), plain.cleanTakes());
            default -> {
                int what = about(12);
                due("count(" + what + ")", x.count(what), plain.count(what));
            }
        }
    }
}
