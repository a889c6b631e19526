/**
 * A cue board of a radio play: sounds on shelves, scenes with cues by ticks, hands who make the
 * sounds and walk along the shelves, takes, texts of cues, undo and a snapshot.
 *
 * <p>All rows are made with the board and used again, so that no call makes an object.
 */
public final class LentSounds {
    public static final int UNKNOWN = -1;
    public static final int BAD_VALUE = -2;
    public static final int FULL = -3;
    public static final int NOT_POSSIBLE = -4;
    public static final int NONE = -5;

    private static final int SOUNDS = 10;
    private static final int SHELVES = 5;
    private static final int SCENES = 6;
    private static final int FIRST_CHARGES = 5;
    private static final int MAX_CHARGES = 30;
    private static final int FIRST_LOUDNESS = 1;
    private static final int MAX_LOUDNESS = 9;
    private static final int MAX_HANDS = 4;
    private static final int FIRST_HANDS = 2;
    private static final int MAX_CARRYING = 20;
    private static final int FIRST_CARRYING = 2;
    private static final int MAX_CUES = 40;
    private static final int LAST_TICK = 999;
    private static final int LONGEST_CUE = 20;
    private static final int FURTHEST_SHIFT = 99;
    private static final int MAX_TEXT = 60;
    private static final int MAX_STATES = 4;
    private static final int MAX_CLEAN_TAKES = 30;
    private static final int FAULT_AT_0 = -100;

    private static final int SHELF = 0;
    private static final int CHARGES = 1;
    private static final int LOUDNESS = 2;

    private static final int PLAYED = 0;
    private static final int NO_CHARGE = 1;
    private static final int NOT_THERE_YET = 2;
    private static final int NO_HAND = 3;

    private final State now = new State();
    private final State snapshot = new State();
    private final History history = new History();
    private final Text text = new Text();
    private final CueReader reader = new CueReader();
    private final Rehearsal rehearsal = new Rehearsal();
    private boolean hasSnapshot = false;

    /** Creates a board without cues. */
    public LentSounds() {
    }

    // ---- sounds, hands, settings

    public int setSound(int sound, int what, int value) {
        if (!isBelow(sound, SOUNDS)) {
            return UNKNOWN;
        }
        if (!isSoundValue(what, value)) {
            return BAD_VALUE;
        }
        Row row = now.soundRow(what);
        int previous = row.get(sound);
        if (previous == value) {
            return NONE;
        }
        history.record(now);
        row.put(sound, value);
        return previous;
    }

    public int setHands(int hands) {
        if (!isWithin(hands, 1, MAX_HANDS)) {
            return BAD_VALUE;
        }
        int previous = now.hands;
        if (previous == hands) {
            return NONE;
        }
        history.record(now);
        for (int hand = previous; hand < hands; hand++) {
            now.handShelves.put(hand, hand);
        }
        now.hands = hands;
        return previous;
    }

    public int send(int hand, int shelf) {
        if (!isBelow(hand, now.hands) || !isBelow(shelf, SHELVES)) {
            return UNKNOWN;
        }
        int previous = now.handShelves.get(hand);
        if (previous == shelf) {
            return NONE;
        }
        history.record(now);
        now.handShelves.put(hand, shelf);
        return previous;
    }

    public int setCarrying(int ticks) {
        if (!isWithin(ticks, 0, MAX_CARRYING)) {
            return BAD_VALUE;
        }
        int previous = now.carrying;
        if (previous == ticks) {
            return NONE;
        }
        history.record(now);
        now.carrying = ticks;
        return previous;
    }

    // ---- cues

    public int readCues() {
        reader.readBehind(now.cues, text);
        if (reader.faulty) {
            return FAULT_AT_0 - reader.position;
        }
        if (reader.foundTwice) {
            return NOT_POSSIBLE;
        }
        if (reader.drafts.size > MAX_CUES) {
            return FULL;
        }
        history.record(now);
        now.cues.copyFrom(reader.drafts);
        return now.cues.size;
    }

    public int removeCue(int cue) {
        if (!isBelow(cue, now.cues.size)) {
            return UNKNOWN;
        }
        history.record(now);
        now.cues.removeAt(cue);
        return now.cues.size;
    }

    public int shift(int scene, int ticks) {
        if (!isBelow(scene, SCENES)) {
            return UNKNOWN;
        }
        if (!isWithin(ticks, -FURTHEST_SHIFT, FURTHEST_SHIFT)) {
            return BAD_VALUE;
        }
        if (!now.cues.canMove(scene, ticks)) {
            return NOT_POSSIBLE;
        }
        int shifted = now.cues.sizeOfScene(scene);
        if (ticks == 0 || shifted == 0) {
            return NONE;
        }
        history.record(now);
        now.cues.moveScene(scene, ticks);
        return shifted;
    }

    public int cutScene(int scene) {
        if (!isBelow(scene, SCENES)) {
            return UNKNOWN;
        }
        int cut = now.cues.sizeOfScene(scene);
        if (cut == 0) {
            return NONE;
        }
        history.record(now);
        now.cues.removeScene(scene);
        return cut;
    }

    // ---- takes

    public int take() {
        if (now.cues.size == 0) {
            return NOT_POSSIBLE;
        }
        history.record(now);
        rehearse(now.hands);
        now.charges.copyFrom(rehearsal.charges);
        now.handShelves.copyFrom(rehearsal.handShelves);
        now.takes++;
        now.playedCues += now.cues.size - rehearsal.missedCues;
        now.missedCues += rehearsal.missedCues;
        now.missedByEar += rehearsal.missedByEar;
        return rehearsal.missedCues;
    }

    // ---- texts

    public int type(char character) {
        if (text.length >= MAX_TEXT) {
            return FULL;
        }
        text.append(character);
        return text.length;
    }

    public int clearText() {
        int previous = text.length;
        text.length = 0;
        return previous;
    }

    // ---- history

    public int undo() {
        if (history.size == 0) {
            return NONE;
        }
        history.moveLatestTo(now);
        return history.size;
    }

    public int keep() {
        snapshot.copyFrom(now);
        hasSnapshot = true;
        return now.cues.size;
    }

    public int restore() {
        if (!hasSnapshot) {
            return NONE;
        }
        history.record(now);
        now.copyFrom(snapshot);
        return now.cues.size;
    }

    // ---- what is told

    public int sound(int sound, int what) {
        if (!isBelow(sound, SOUNDS)) {
            return UNKNOWN;
        }
        switch (what) {
            case SHELF:
            case CHARGES:
            case LOUDNESS:
                return now.soundRow(what).get(sound);
            case 3:
                return now.cues.sizeOfSound(sound);
            case 4:
                rehearse(now.hands);
                return rehearsal.playsOfSound(sound, now.cues);
            case 5:
                return Math.max(now.cues.sizeOfSound(sound) - now.charges.get(sound), 0);
            default:
                return BAD_VALUE;
        }
    }

    public int cue(int cue, int what) {
        if (!isBelow(cue, now.cues.size)) {
            return UNKNOWN;
        }
        switch (what) {
            case 0:
                return now.cues.scenes.get(cue);
            case 1:
                return now.cues.ticks.get(cue);
            case 2:
                return now.cues.sounds.get(cue);
            case 3:
                return now.cues.lengths.get(cue);
            case 4:
                rehearse(now.hands);
                return rehearsal.players.get(cue);
            case 5:
                rehearse(now.hands);
                return rehearsal.reasons.get(cue);
            case 6:
                rehearse(now.hands);
                return rehearsal.ways.get(cue);
            default:
                return BAD_VALUE;
        }
    }

    public int hand(int hand, int what) {
        if (!isBelow(hand, now.hands)) {
            return UNKNOWN;
        }
        rehearse(now.hands);
        switch (what) {
            case 0:
                return now.handShelves.get(hand);
            case 1:
                return rehearsal.handPlays.get(hand);
            case 2:
                return rehearsal.handWays.get(hand);
            case 3:
                return rehearsal.freeFrom.get(hand);
            case 4:
                return rehearsal.handShelves.get(hand);
            default:
                return BAD_VALUE;
        }
    }

    public int scene(int scene, int what) {
        if (!isBelow(scene, SCENES)) {
            return UNKNOWN;
        }
        switch (what) {
            case 0:
                return now.cues.sizeOfScene(scene);
            case 1:
                return now.cues.firstTick(scene);
            case 2:
                return now.cues.greatestEnd(scene);
            case 3:
                rehearse(now.hands);
                return rehearsal.sceneMisses.get(scene);
            case 4:
                rehearse(now.hands);
                return rehearsal.sceneLoans.get(scene);
            default:
                return BAD_VALUE;
        }
    }

    public int missed(int rank) {
        if (rank < 0) {
            return BAD_VALUE;
        }
        rehearse(now.hands);
        return rehearsal.missedCue(rank, now.cues.size);
    }

    public int ifHands(int hands) {
        if (!isWithin(hands, 1, MAX_HANDS)) {
            return BAD_VALUE;
        }
        rehearse(hands);
        return rehearsal.missedByEar;
    }

    public int cleanTakes() {
        if (now.cues.size == 0) {
            return NOT_POSSIBLE;
        }
        rehearsal.begin(now, now.hands);
        for (int clean = 0; clean < MAX_CLEAN_TAKES; clean++) {
            rehearsal.playTake(now);
            if (rehearsal.missedCues > 0) {
                return clean;
            }
        }
        return MAX_CLEAN_TAKES;
    }

    public int count(int what) {
        switch (what) {
            case 0:
                return now.cues.size;
            case 1:
                return now.hands;
            case 2:
                return now.carrying;
            case 3:
                return now.takes;
            case 4:
                return now.playedCues;
            case 5:
                return now.missedCues;
            case 6:
                return now.missedByEar;
            case 7:
                rehearse(now.hands);
                return rehearsal.missedCues;
            case 8:
                rehearse(now.hands);
                return rehearsal.missedByEar;
            case 9:
                return now.charges.sum();
            case 10:
                return history.size;
            case 11:
                return text.length;
            default:
                return BAD_VALUE;
        }
    }

    private void rehearse(int hands) {
        rehearsal.begin(now, hands);
        rehearsal.playTake(now);
    }

    private static boolean isBelow(int number, int bound) {
        return number >= 0 && number < bound;
    }

    private static boolean isWithin(int number, int least, int most) {
        return number >= least && number <= most;
    }

    private static boolean isSoundValue(int what, int value) {
        switch (what) {
            case SHELF:
                return isBelow(value, SHELVES);
            case CHARGES:
                return isWithin(value, 0, MAX_CHARGES);
            case LOUDNESS:
                return isWithin(value, 1, MAX_LOUDNESS);
            default:
                return false;
        }
    }

    /** Numbers in a row; it looks at every index itself, so that none can go wrong elsewhere. */
    private static final class Row {
        private final int[] cells;

        Row(int length) {
            cells = new int[Math.max(length, 0)];
        }

        int get(int index) {
            return index >= 0 && index < cells.length ? cells[index] : 0;
        }

        void put(int index, int value) {
            if (index >= 0 && index < cells.length) {
                cells[index] = value;
            }
        }

        void increase(int index, int by) {
            put(index, get(index) + by);
        }

        void swap(int one, int other) {
            int kept = get(one);
            put(one, get(other));
            put(other, kept);
        }

        void fill(int value) {
            for (int index = 0; index < cells.length; index++) {
                cells[index] = value;
            }
        }

        int sum() {
            int sum = 0;
            for (int index = 0; index < cells.length; index++) {
                sum += cells[index];
            }
            return sum;
        }

        void copyFrom(Row other) {
            int length = Math.min(cells.length, other.cells.length);
            System.arraycopy(other.cells, 0, cells, 0, length);
        }
    }

    /** Cues in their order: by ticks, of several by scenes, of these by sounds. */
    private static final class CueList {
        private final int capacity;
        private final Row ticks;
        private final Row scenes;
        private final Row sounds;
        private final Row lengths;
        private int size = 0;

        CueList(int capacity) {
            this.capacity = capacity;
            ticks = new Row(capacity);
            scenes = new Row(capacity);
            sounds = new Row(capacity);
            lengths = new Row(capacity);
        }

        void copyFrom(CueList other) {
            ticks.copyFrom(other.ticks);
            scenes.copyFrom(other.scenes);
            sounds.copyFrom(other.sounds);
            lengths.copyFrom(other.lengths);
            size = Math.min(other.size, capacity);
        }

        int endOf(int cue) {
            return ticks.get(cue) + lengths.get(cue);
        }

        boolean has(int scene, int tick, int sound) {
            for (int cue = 0; cue < size; cue++) {
                if (scenes.get(cue) == scene && ticks.get(cue) == tick
                        && sounds.get(cue) == sound) {
                    return true;
                }
            }
            return false;
        }

        /** The list stays out of order until putInOrder(). */
        void append(int scene, int tick, int sound, int length) {
            if (size >= capacity) {
                return;
            }
            scenes.put(size, scene);
            ticks.put(size, tick);
            sounds.put(size, sound);
            lengths.put(size, length);
            size++;
        }

        void putInOrder() {
            for (int cue = 1; cue < size; cue++) {
                moveToItsPlace(cue);
            }
        }

        void removeAt(int cue) {
            for (int next = cue + 1; next < size; next++) {
                swap(next - 1, next);
            }
            size--;
        }

        void removeScene(int scene) {
            int left = 0;
            for (int cue = 0; cue < size; cue++) {
                if (scenes.get(cue) != scene) {
                    swap(left, cue);
                    left++;
                }
            }
            size = left;
        }

        boolean canMove(int scene, int by) {
            for (int cue = 0; cue < size; cue++) {
                if (scenes.get(cue) == scene && !isWithin(ticks.get(cue) + by, 0, LAST_TICK)) {
                    return false;
                }
            }
            return true;
        }

        void moveScene(int scene, int by) {
            for (int cue = 0; cue < size; cue++) {
                if (scenes.get(cue) == scene) {
                    ticks.increase(cue, by);
                }
            }
            putInOrder();
        }

        int sizeOfScene(int scene) {
            return timesIn(scenes, scene);
        }

        int sizeOfSound(int sound) {
            return timesIn(sounds, sound);
        }

        int firstTick(int scene) {
            for (int cue = 0; cue < size; cue++) {
                if (scenes.get(cue) == scene) {
                    return ticks.get(cue);
                }
            }
            return NONE;
        }

        int greatestEnd(int scene) {
            int greatest = NONE;
            for (int cue = 0; cue < size; cue++) {
                if (scenes.get(cue) == scene) {
                    greatest = Math.max(greatest, endOf(cue));
                }
            }
            return greatest;
        }

        private int timesIn(Row row, int number) {
            int times = 0;
            for (int cue = 0; cue < size; cue++) {
                if (row.get(cue) == number) {
                    times++;
                }
            }
            return times;
        }

        /** All cues ahead of this one must be in order. */
        private void moveToItsPlace(int cue) {
            for (int place = cue; place > 0 && order(place) < order(place - 1); place--) {
                swap(place - 1, place);
            }
        }

        private int order(int cue) {
            return (ticks.get(cue) * SCENES + scenes.get(cue)) * SOUNDS + sounds.get(cue);
        }

        private void swap(int one, int other) {
            ticks.swap(one, other);
            scenes.swap(one, other);
            sounds.swap(one, other);
            lengths.swap(one, other);
        }
    }

    /** Everything that undo and the snapshot bring back. */
    private static final class State {
        private final Row soundShelves = new Row(SOUNDS);
        private final Row charges = new Row(SOUNDS);
        private final Row loudness = new Row(SOUNDS);
        private final Row handShelves = new Row(MAX_HANDS);
        private final CueList cues = new CueList(MAX_CUES);
        private int hands = FIRST_HANDS;
        private int carrying = FIRST_CARRYING;
        private int takes = 0;
        private int playedCues = 0;
        private int missedCues = 0;
        private int missedByEar = 0;

        State() {
            for (int sound = 0; sound < SOUNDS; sound++) {
                soundShelves.put(sound, sound % SHELVES);
                charges.put(sound, FIRST_CHARGES);
                loudness.put(sound, FIRST_LOUDNESS);
            }
            for (int hand = 0; hand < MAX_HANDS; hand++) {
                handShelves.put(hand, hand);
            }
        }

        void copyFrom(State other) {
            soundShelves.copyFrom(other.soundShelves);
            charges.copyFrom(other.charges);
            loudness.copyFrom(other.loudness);
            handShelves.copyFrom(other.handShelves);
            cues.copyFrom(other.cues);
            hands = other.hands;
            carrying = other.carrying;
            takes = other.takes;
            playedCues = other.playedCues;
            missedCues = other.missedCues;
            missedByEar = other.missedByEar;
        }

        Row soundRow(int what) {
            switch (what) {
                case SHELF:
                    return soundShelves;
                case CHARGES:
                    return charges;
                default:
                    return loudness;
            }
        }
    }

    /** The states before the latest acts, the oldest one first. */
    private static final class History {
        private final State[] states = new State[MAX_STATES];
        private int size = 0;

        History() {
            for (int place = 0; place < states.length; place++) {
                states[place] = new State();
            }
        }

        void record(State state) {
            if (size >= states.length) {
                dropOldest();
            }
            State place = at(size);
            if (place != null) {
                place.copyFrom(state);
                size++;
            }
        }

        void moveLatestTo(State state) {
            State latest = at(size - 1);
            if (latest != null) {
                state.copyFrom(latest);
                size--;
            }
        }

        private State at(int place) {
            return place >= 0 && place < states.length ? states[place] : null;
        }

        /** The oldest one goes behind the others, where its rows are used again. */
        private void dropOldest() {
            for (int place = 1; place < states.length; place++) {
                State older = states[place - 1];
                states[place - 1] = states[place];
                states[place] = older;
            }
            size--;
        }
    }

    /** The characters that are typed. */
    private static final class Text {
        private static final int END = -1;

        private final Row characters = new Row(MAX_TEXT);
        private int length = 0;

        void append(char character) {
            if (length < MAX_TEXT) {
                characters.put(length, character);
                length++;
            }
        }

        int at(int index) {
            return isBelow(index, length) ? characters.get(index) : END;
        }
    }

    /** Reads a text of cues; at a fault it stands still at the fault's position. */
    private static final class CueReader {
        /** With room for a whole text behind a full board, so that cues that are twice show. */
        private final CueList drafts = new CueList(MAX_CUES + MAX_TEXT);
        private int position = 0;
        private boolean faulty = false;
        private boolean foundTwice = false;

        void readBehind(CueList cues, Text text) {
            drafts.copyFrom(cues);
            position = 0;
            faulty = false;
            foundTwice = false;
            readCue(text);
            for (int cue = 1; cue < MAX_TEXT && !faulty && position < text.length; cue++) {
                readSign(text, ',');
                readCue(text);
            }
            drafts.putInOrder();
        }

        private void readCue(Text text) {
            int scene = readNumber(text, 0, SCENES - 1);
            readSign(text, '@');
            int tick = readNumber(text, 0, LAST_TICK);
            readSign(text, 's');
            int sound = readNumber(text, 0, SOUNDS - 1);
            int length = 1;
            if (!faulty && text.at(position) == '*') {
                position++;
                length = readNumber(text, 1, LONGEST_CUE);
            }
            if (!faulty) {
                addDraft(scene, tick, sound, length);
            }
        }

        private void addDraft(int scene, int tick, int sound, int length) {
            if (drafts.has(scene, tick, sound)) {
                foundTwice = true;
            } else {
                drafts.append(scene, tick, sound, length);
            }
        }

        private void readSign(Text text, char sign) {
            if (faulty) {
                return;
            }
            if (text.at(position) == sign) {
                position++;
            } else {
                faulty = true;
            }
        }

        /** A digit too many is left to be the fault of what must follow the number. */
        private int readNumber(Text text, int least, int most) {
            if (faulty) {
                return 0;
            }
            int number = digitAt(text, position);
            if (number == NONE || !isWithin(number, least, most)) {
                faulty = true;
                return 0;
            }
            position++;
            while (number > 0 && position < text.length) {
                int digit = digitAt(text, position);
                if (digit == NONE || number * 10 + digit > most) {
                    break;
                }
                number = number * 10 + digit;
                position++;
            }
            return number;
        }

        private static int digitAt(Text text, int index) {
            int character = text.at(index);
            return isWithin(character, '0', '9') ? character - '0' : NONE;
        }
    }

    /** Takes that are tried without changing the board. */
    private static final class Rehearsal {
        private static final int NOWHERE = -1;

        private final Row charges = new Row(SOUNDS);
        private final Row latestScenes = new Row(SOUNDS);
        private final Row latestEnds = new Row(SOUNDS);
        private final Row handShelves = new Row(MAX_HANDS);
        private final Row freeFrom = new Row(MAX_HANDS);
        private final Row handPlays = new Row(MAX_HANDS);
        private final Row handWays = new Row(MAX_HANDS);
        private final Row players = new Row(MAX_CUES);
        private final Row reasons = new Row(MAX_CUES);
        private final Row ways = new Row(MAX_CUES);
        private final Row sceneMisses = new Row(SCENES);
        private final Row sceneLoans = new Row(SCENES);
        private int hands = 0;
        private int missedCues = 0;
        private int missedByEar = 0;

        /** Sets out from the board's charges and shelves; more hands than it has are new ones. */
        void begin(State board, int withHands) {
            hands = withHands;
            charges.copyFrom(board.charges);
            for (int hand = 0; hand < MAX_HANDS; hand++) {
                boolean isNew = hand >= board.hands;
                handShelves.put(hand, isNew ? hand : board.handShelves.get(hand));
            }
        }

        /** Goes on from the charges and shelves of the take before, so that takes can follow. */
        void playTake(State board) {
            latestScenes.fill(NOWHERE);
            latestEnds.fill(0);
            freeFrom.fill(0);
            handPlays.fill(0);
            handWays.fill(0);
            sceneMisses.fill(0);
            sceneLoans.fill(0);
            missedCues = 0;
            missedByEar = 0;
            for (int cue = 0; cue < board.cues.size; cue++) {
                doCue(cue, board);
            }
        }

        int playsOfSound(int sound, CueList cues) {
            int plays = 0;
            for (int cue = 0; cue < cues.size; cue++) {
                if (cues.sounds.get(cue) == sound && reasons.get(cue) == PLAYED) {
                    plays++;
                }
            }
            return plays;
        }

        int missedCue(int rank, int cues) {
            int rankOfNext = 0;
            for (int cue = 0; cue < cues; cue++) {
                if (reasons.get(cue) != PLAYED) {
                    if (rankOfNext == rank) {
                        return cue;
                    }
                    rankOfNext++;
                }
            }
            return NONE;
        }

        private void doCue(int cue, State board) {
            int shelf = board.soundShelves.get(board.cues.sounds.get(cue));
            int hand = nearestHand(shelf, board.cues.ticks.get(cue));
            int reason = reasonToMiss(cue, board, hand);
            reasons.put(cue, reason);
            if (reason == PLAYED) {
                play(cue, board.cues, hand, shelf);
            } else {
                miss(cue, board);
            }
        }

        /** Without carrying, a sound still waits for the end of the cue that used it the latest. */
        private int reasonToMiss(int cue, State board, int hand) {
            int sound = board.cues.sounds.get(cue);
            if (charges.get(sound) <= 0) {
                return NO_CHARGE;
            }
            int since = board.cues.ticks.get(cue) - latestEnds.get(sound);
            int needed = isLent(sound, board.cues.scenes.get(cue)) ? board.carrying : 0;
            if (since < needed) {
                return NOT_THERE_YET;
            }
            return hand == NONE ? NO_HAND : PLAYED;
        }

        private boolean isLent(int sound, int scene) {
            int latest = latestScenes.get(sound);
            return latest != NOWHERE && latest != scene;
        }

        private int nearestHand(int shelf, int tick) {
            int nearest = NONE;
            int shortest = SHELVES;
            for (int hand = 0; hand < hands; hand++) {
                int way = wayTo(shelf, hand);
                if (way < shortest && tick - freeFrom.get(hand) >= way) {
                    nearest = hand;
                    shortest = way;
                }
            }
            return nearest;
        }

        private int wayTo(int shelf, int hand) {
            return Math.abs(shelf - handShelves.get(hand));
        }

        private void play(int cue, CueList cues, int hand, int shelf) {
            int scene = cues.scenes.get(cue);
            int sound = cues.sounds.get(cue);
            int way = wayTo(shelf, hand);
            if (isLent(sound, scene)) {
                sceneLoans.increase(scene, 1);
            }
            players.put(cue, hand);
            ways.put(cue, way);
            handPlays.increase(hand, 1);
            handWays.increase(hand, way);
            handShelves.put(hand, shelf);
            freeFrom.put(hand, cues.endOf(cue));
            charges.increase(sound, -1);
            latestScenes.put(sound, scene);
            latestEnds.put(sound, cues.endOf(cue));
        }

        private void miss(int cue, State board) {
            players.put(cue, NONE);
            ways.put(cue, NONE);
            sceneMisses.increase(board.cues.scenes.get(cue), 1);
            missedCues++;
            missedByEar += board.loudness.get(board.cues.sounds.get(cue));
        }
    }
}
