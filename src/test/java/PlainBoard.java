import java.util.ArrayDeque;
import java.util.ArrayList;
import java.util.Comparator;
import java.util.Deque;
import java.util.HashMap;
import java.util.HashSet;
import java.util.List;
import java.util.Map;
import java.util.regex.Matcher;
import java.util.regex.Pattern;

/** The document once more, in the plainest form, to compare answers with. */
final class PlainBoard {
    private static final String CUE =
            "[0-5]@(?:0|[1-9][0-9]{0,2})s[0-9](?:\\*(?:20|1[0-9]|[1-9]))?";
    private static final Pattern TEXT = Pattern.compile(CUE + "(?:," + CUE + ")*");

    record Cue(int tick, int scene, int sound, int length) {
        int end() {
            return tick + length;
        }

        String name() {
            return tick + " " + scene + " " + sound;
        }
    }

    record State(List<List<Integer>> sounds, List<Integer> hands, int carrying, List<Cue> cues,
            int takes, int played, int missed, int ear) {
    }

    record Done(Cue cue, int hand, int reason, int way, boolean lent) {
    }

    record Take(List<Done> done, List<Integer> charges, List<Integer> shelves,
            List<Integer> free) {
        int misses() {
            return (int) done.stream().filter(d -> d.reason != 0).count();
        }
    }

    private List<List<Integer>> sounds = new ArrayList<>();
    private List<Integer> hands = new ArrayList<>(List.of(0, 1));
    private int carrying = 2;
    private List<Cue> cues = new ArrayList<>();
    private int takes = 0;
    private int played = 0;
    private int missed = 0;
    private int ear = 0;
    private String text = "";
    private final Deque<State> history = new ArrayDeque<>();
    private State snapshot = null;

    PlainBoard() {
        for (int s = 0; s < 10; s++) {
            sounds.add(new ArrayList<>(List.of(s % 5, 5, 1)));
        }
    }

    private State state() {
        List<List<Integer>> copy = new ArrayList<>();
        sounds.forEach(s -> copy.add(List.copyOf(s)));
        return new State(copy, List.copyOf(hands), carrying, List.copyOf(cues), takes, played,
                missed, ear);
    }

    private void become(State s) {
        sounds = new ArrayList<>();
        s.sounds.forEach(one -> sounds.add(new ArrayList<>(one)));
        hands = new ArrayList<>(s.hands);
        carrying = s.carrying;
        cues = new ArrayList<>(s.cues);
        takes = s.takes;
        played = s.played;
        missed = s.missed;
        ear = s.ear;
    }

    private void record() {
        history.addLast(state());
        if (history.size() > 4) {
            history.removeFirst();
        }
    }

    private static boolean out(int n, int least, int most) {
        return n < least || n > most;
    }

    private void sort() {
        cues.sort(Comparator.comparingInt(Cue::tick).thenComparingInt(Cue::scene)
                .thenComparingInt(Cue::sound));
    }

    int setSound(int sound, int what, int value) {
        if (out(sound, 0, 9)) {
            return -1;
        }
        if (out(what, 0, 2) || what == 0 && out(value, 0, 4) || what == 1 && out(value, 0, 30)
                || what == 2 && out(value, 1, 9)) {
            return -2;
        }
        int was = sounds.get(sound).get(what);
        if (was == value) {
            return -5;
        }
        record();
        sounds.get(sound).set(what, value);
        return was;
    }

    private List<Integer> withHands(int number) {
        List<Integer> some = new ArrayList<>(hands.subList(0, Math.min(number, hands.size())));
        while (some.size() < number) {
            some.add(some.size());
        }
        return some;
    }

    int setHands(int number) {
        if (out(number, 1, 4)) {
            return -2;
        }
        int was = hands.size();
        if (was == number) {
            return -5;
        }
        record();
        hands = withHands(number);
        return was;
    }

    int send(int hand, int shelf) {
        if (out(hand, 0, hands.size() - 1) || out(shelf, 0, 4)) {
            return -1;
        }
        int was = hands.get(hand);
        if (was == shelf) {
            return -5;
        }
        record();
        hands.set(hand, shelf);
        return was;
    }

    int setCarrying(int ticks) {
        if (out(ticks, 0, 20)) {
            return -2;
        }
        int was = carrying;
        if (was == ticks) {
            return -5;
        }
        record();
        carrying = ticks;
        return was;
    }

    /** The length of the longest start of the text with which a good text can begin. */
    private int fault() {
        if (TEXT.matcher(text).matches()) {
            return -1;
        }
        int good = 0;
        while (good < text.length()) {
            Matcher start = TEXT.matcher(text.substring(0, good + 1));
            if (!start.matches() && !start.hitEnd()) {
                break;
            }
            good++;
        }
        return good;
    }

    int readCues() {
        int fault = fault();
        if (fault >= 0) {
            return -100 - fault;
        }
        List<Cue> all = new ArrayList<>(cues);
        for (String one : text.split(",")) {
            String[] parts = one.split("[@s*]");
            all.add(new Cue(Integer.parseInt(parts[1]), Integer.parseInt(parts[0]),
                    Integer.parseInt(parts[2]), parts.length < 4 ? 1 : Integer.parseInt(parts[3])));
        }
        HashSet<String> names = new HashSet<>();
        for (Cue cue : all) {
            if (!names.add(cue.name())) {
                return -4;
            }
        }
        if (all.size() > 40) {
            return -3;
        }
        record();
        cues = all;
        sort();
        return cues.size();
    }

    int removeCue(int cue) {
        if (out(cue, 0, cues.size() - 1)) {
            return -1;
        }
        record();
        cues.remove(cue);
        return cues.size();
    }

    int shift(int scene, int ticks) {
        if (out(scene, 0, 5)) {
            return -1;
        }
        if (out(ticks, -99, 99)) {
            return -2;
        }
        List<Cue> moved = new ArrayList<>();
        int number = 0;
        for (Cue cue : cues) {
            if (cue.scene == scene) {
                number++;
                moved.add(new Cue(cue.tick + ticks, scene, cue.sound, cue.length));
            } else {
                moved.add(cue);
            }
        }
        if (moved.stream().anyMatch(cue -> out(cue.tick, 0, 999))) {
            return -4;
        }
        if (ticks == 0 || number == 0) {
            return -5;
        }
        record();
        cues = moved;
        sort();
        return number;
    }

    int cutScene(int scene) {
        if (out(scene, 0, 5)) {
            return -1;
        }
        List<Cue> left = new ArrayList<>(cues);
        left.removeIf(cue -> cue.scene == scene);
        int cut = cues.size() - left.size();
        if (cut == 0) {
            return -5;
        }
        record();
        cues = left;
        return cut;
    }

    private List<Integer> chargesNow() {
        List<Integer> charges = new ArrayList<>();
        sounds.forEach(s -> charges.add(s.get(1)));
        return charges;
    }

    private Take tryTake() {
        return tryTake(chargesNow(), hands);
    }

    private Take tryTake(List<Integer> fromCharges, List<Integer> fromShelves) {
        Take take = new Take(new ArrayList<>(), new ArrayList<>(fromCharges),
                new ArrayList<>(fromShelves), new ArrayList<>());
        fromShelves.forEach(s -> take.free.add(0));
        Map<Integer, Cue> latest = new HashMap<>();
        for (Cue cue : cues) {
            take.done.add(tryCue(cue, take, latest));
        }
        return take;
    }

    private Done tryCue(Cue cue, Take take, Map<Integer, Cue> latest) {
        if (take.charges.get(cue.sound) == 0) {
            return new Done(cue, -5, 1, -5, false);
        }
        Cue before = latest.get(cue.sound);
        boolean lent = before != null && before.scene != cue.scene;
        if (lent && cue.tick - before.end() < carrying
                || before != null && before.end() > cue.tick) {
            return new Done(cue, -5, 2, -5, false);
        }
        int shelf = sounds.get(cue.sound).get(0);
        for (int way = 0; way < 5; way++) {
            for (int hand = 0; hand < take.shelves.size(); hand++) {
                if (Math.abs(take.shelves.get(hand) - shelf) == way
                        && take.free.get(hand) <= cue.tick
                        && cue.tick - take.free.get(hand) >= way) {
                    take.shelves.set(hand, shelf);
                    take.free.set(hand, cue.end());
                    take.charges.set(cue.sound, take.charges.get(cue.sound) - 1);
                    latest.put(cue.sound, cue);
                    return new Done(cue, hand, 0, way, lent);
                }
            }
        }
        return new Done(cue, -5, 3, -5, false);
    }

    private int earOf(Take take) {
        return take.done.stream().filter(d -> d.reason != 0)
                .mapToInt(d -> sounds.get(d.cue.sound).get(2)).sum();
    }

    int take() {
        if (cues.isEmpty()) {
            return -4;
        }
        record();
        Take take = tryTake();
        for (int s = 0; s < 10; s++) {
            sounds.get(s).set(1, take.charges.get(s));
        }
        hands = new ArrayList<>(take.shelves);
        takes++;
        played += cues.size() - take.misses();
        missed += take.misses();
        ear += earOf(take);
        return take.misses();
    }

    int type(char character) {
        if (text.length() == 60) {
            return -3;
        }
        text += character;
        return text.length();
    }

    int clearText() {
        int was = text.length();
        text = "";
        return was;
    }

    int undo() {
        if (history.isEmpty()) {
            return -5;
        }
        become(history.removeLast());
        return history.size();
    }

    int keep() {
        snapshot = state();
        return cues.size();
    }

    int restore() {
        if (snapshot == null) {
            return -5;
        }
        record();
        become(snapshot);
        return cues.size();
    }

    int sound(int sound, int what) {
        if (out(sound, 0, 9)) {
            return -1;
        }
        int its = (int) cues.stream().filter(cue -> cue.sound == sound).count();
        return switch (what) {
            case 0, 1, 2 -> sounds.get(sound).get(what);
            case 3 -> its;
            case 4 -> (int) tryTake().done.stream()
                    .filter(d -> d.cue.sound == sound && d.reason == 0).count();
            case 5 -> Math.max(0, its - sounds.get(sound).get(1));
            default -> -2;
        };
    }

    int cue(int number, int what) {
        if (out(number, 0, cues.size() - 1)) {
            return -1;
        }
        Done done = tryTake().done.get(number);
        return switch (what) {
            case 0 -> done.cue.scene;
            case 1 -> done.cue.tick;
            case 2 -> done.cue.sound;
            case 3 -> done.cue.length;
            case 4 -> done.hand;
            case 5 -> done.reason;
            case 6 -> done.way;
            default -> -2;
        };
    }

    int hand(int hand, int what) {
        if (out(hand, 0, hands.size() - 1)) {
            return -1;
        }
        Take take = tryTake();
        List<Done> its = take.done.stream().filter(d -> d.hand == hand).toList();
        return switch (what) {
            case 0 -> hands.get(hand);
            case 1 -> its.size();
            case 2 -> its.stream().mapToInt(Done::way).sum();
            case 3 -> take.free.get(hand);
            case 4 -> take.shelves.get(hand);
            default -> -2;
        };
    }

    int scene(int scene, int what) {
        if (out(scene, 0, 5)) {
            return -1;
        }
        List<Done> its = tryTake().done.stream().filter(d -> d.cue.scene == scene).toList();
        return switch (what) {
            case 0 -> its.size();
            case 1 -> its.stream().mapToInt(d -> d.cue.tick).min().orElse(-5);
            case 2 -> its.stream().mapToInt(d -> d.cue.end()).max().orElse(-5);
            case 3 -> (int) its.stream().filter(d -> d.reason != 0).count();
            case 4 -> (int) its.stream().filter(Done::lent).count();
            default -> -2;
        };
    }

    int missed(int rank) {
        if (rank < 0) {
            return -2;
        }
        List<Integer> all = new ArrayList<>();
        Take take = tryTake();
        for (int cue = 0; cue < cues.size(); cue++) {
            if (take.done.get(cue).reason != 0) {
                all.add(cue);
            }
        }
        return rank < all.size() ? all.get(rank) : -5;
    }

    int ifHands(int number) {
        return out(number, 1, 4) ? -2 : earOf(tryTake(chargesNow(), withHands(number)));
    }

    int cleanTakes() {
        if (cues.isEmpty()) {
            return -4;
        }
        Take take = tryTake();
        int clean = 0;
        while (clean < 30 && take.misses() == 0) {
            clean++;
            take = tryTake(take.charges, take.shelves);
        }
        return clean;
    }

    int count(int what) {
        return switch (what) {
            case 0 -> cues.size();
            case 1 -> hands.size();
            case 2 -> carrying;
            case 3 -> takes;
            case 4 -> played;
            case 5 -> missed;
            case 6 -> ear;
            case 7 -> tryTake().misses();
            case 8 -> earOf(tryTake());
            case 9 -> chargesNow().stream().mapToInt(Integer::intValue).sum();
            case 10 -> history.size();
            case 11 -> text.length();
            default -> -2;
        };
    }
}
