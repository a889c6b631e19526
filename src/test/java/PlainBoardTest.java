/** All promises: many runs of calls, each answer compared with that of the plain board. */
final class PlainBoardTest {
    private static final int RUNS = 1500;
    private static final int LONGEST_STEP = 62;
    private static final int[] WILD = {Integer.MIN_VALUE, -101, -100, -2, -1, 100, 1000, 1 << 16,
        Integer.MAX_VALUE};

    private final Board board = new Board();
    private final int furthestTick;
    private long seed;

    private PlainBoardTest(int run) {
        seed = run * 7919L + 1;
        int[] furthest = {3, 12, 40, 150, 999};
        furthestTick = furthest[run % furthest.length];
    }

    static void run() {
        Check.that("runs of calls, answered as by the plain board");
        for (int run = 0; run < RUNS && Check.wrongSoFar() == 0; run++) {
            PlainBoardTest test = new PlainBoardTest(run);
            while (test.board.calls() + LONGEST_STEP <= Board.LAST_CALL) {
                test.step();
            }
            while (test.board.calls() < Board.LAST_CALL) {
                test.question();
            }
            Check.holds(Check.wrongSoFar() == 0, "this was run " + run);
        }
    }

    /** The same numbers each time, so that a fault shows again. */
    private int pick(int bound) {
        seed = seed * 6364136223846793005L + 1442695040888963407L;
        return (int) ((seed >>> 33) % bound);
    }

    /** Mostly a number from 0 to the bound itself, which is often just outside. */
    private int about(int bound) {
        int sort = pick(40);
        return sort == 0 ? WILD[pick(WILD.length)] : sort == 1 ? bound : pick(bound);
    }

    private void step() {
        int sort = pick(100);
        if (sort < 6) {
            typeText();
        } else if (sort < 36) {
            act();
        } else if (sort < 44) {
            goBack();
        } else {
            question();
        }
    }

    private String someText() {
        StringBuilder text = new StringBuilder();
        int cues = 1 + pick(9);
        for (int cue = 0; cue < cues; cue++) {
            text.append(cue == 0 ? "" : ",").append(pick(6)).append('@')
                    .append(pick(furthestTick + 1)).append('s').append(pick(10));
            if (pick(2) == 0) {
                text.append('*').append(pick(8) == 0 ? 20 : 1 + pick(5));
            }
        }
        if (pick(6) == 0) {
            String signs = "0123456789@s*,, x";
            text.setCharAt(pick(text.length()), signs.charAt(pick(signs.length())));
        }
        int room = pick(6) == 0 ? pick(61) : 60;
        if (text.length() > room) {
            int comma = text.lastIndexOf(",", room);
            text.setLength(comma > 0 && pick(4) > 0 ? comma : room);
        }
        return text.toString();
    }

    private void typeText() {
        if (pick(12) > 0) {
            board.ask("clearText()");
        }
        for (char character : someText().toCharArray()) {
            board.ask("type(" + (int) character + ")");
        }
        board.ask("readCues()");
    }

    private void ask(String name, int... arguments) {
        StringBuilder call = new StringBuilder(name).append('(');
        for (int i = 0; i < arguments.length; i++) {
            call.append(i == 0 ? "" : ", ").append(arguments[i]);
        }
        board.ask(call.append(')').toString());
    }

    private void act() {
        switch (pick(12)) {
            case 0, 1, 2 -> {
                int what = about(3);
                int[] bounds = {5, 31, 10};
                ask("setSound", about(10), what, about(bounds[Math.floorMod(what, 3)]));
            }
            case 3 -> ask("setHands", about(5));
            case 4 -> ask("send", about(4), about(5));
            case 5 -> ask("setCarrying", pick(3) == 0 ? about(21) : about(4));
            case 6 -> ask("readCues");
            case 7 -> ask("removeCue", about(12));
            case 8 -> ask("shift", about(6), about(100) - pick(100));
            case 9 -> ask("shift", about(6), pick(7) - 3);
            case 10 -> ask("cutScene", pick(8) == 0 ? about(6) : 6);
            default -> ask("take");
        }
    }

    private void goBack() {
        switch (pick(5)) {
            case 0, 1 -> ask("undo");
            case 2, 3 -> ask("keep");
            default -> ask("restore");
        }
    }

    private void question() {
        switch (pick(9)) {
            case 0, 1 -> ask("cue", pick(3) == 0 ? about(41) : about(10), about(7));
            case 2 -> ask("sound", about(10), about(6));
            case 3 -> ask("hand", about(4), about(5));
            case 4 -> ask("scene", about(6), about(5));
            case 5 -> ask("missed", about(8));
            case 6 -> ask("ifHands", about(5));
            case 7 -> ask("cleanTakes");
            default -> ask("count", about(12));
        }
    }
}
