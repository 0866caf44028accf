/**
 * Index cards of a novelist, in a box or pinned to a wall by scenes.
 *
 * <p>Everything is held in rows of fixed length that the constructor makes; no
 * call makes an object, as all calls of a run share one room.
 */
public final class StoryWall {
    /** There is no such card, thread or scene. */
    public static final int UNKNOWN = -1;
    /** Another argument is out of range. */
    public static final int BAD_VALUE = -2;
    /** There is no more room. */
    public static final int FULL = -3;
    /** This is not possible. */
    public static final int NOT_POSSIBLE = -4;
    /** There is no such thing; not an error. */
    public static final int NONE = -5;

    private static final int CARDS = 40;
    private static final int THREADS = 6;
    private static final int SCENES = 16;
    private static final int PLACES = 6;
    private static final int STATES = 4;
    private static final int SIGNS = 60;

    /** What no fault is; it differs from every error and from NONE. */
    private static final int FINE = 0;
    /** A fault of the text is told as this less the fault. */
    private static final int FAULTY_TEXT = -100;
    /** Any thread, or any scene, where one may be named. */
    private static final int ANY = -1;

    /** The numbers of a card, as card() numbers them. */
    private static final int THREAD = 0;
    private static final int HOUR = 1;
    private static final int WORDS = 2;
    private static final int TENSION = 3;
    private static final int FLASHBACK = 4;
    private static final int KINDS = 5;
    private static final int[] LEAST = {0, 0, 1, 0, 0};
    private static final int[] MOST = {5, 9999, 999, 100, 1};

    private static final int SCENES_WITHOUT = 0;
    private static final int HOURS_WITHOUT = 1;
    private static final int RISE = 2;
    private static final int SETTINGS = 3;
    private static final int[] LEAST_SETTING = {0, 1, 0};
    private static final int[] MOST_SETTING = {14, 9999, 1000};

    /** What a tally of cards on the wall adds up; WORDS is one, too. */
    private static final int ON_WALL = 10;
    private static final int STRAIGHT = 11;
    private static final int BREAKS = 12;
    private static final int THREAD_HOLES = 13;
    private static final int TIME_HOLES = 14;

    private final State now = new State();
    private final State snapshot = new State();
    private final History history = new History();
    private final CardText text = new CardText();
    private final Wall trial = new Wall();
    private final Reading reading = new Reading();
    private final StraightRow straightRow = new StraightRow();
    private final Tensions tensions = new Tensions();
    private boolean kept;

    public StoryWall() {
        kept = false;
    }

    // ---- cards

    public int add(int thread, int hour, int words, int tension) {
        if (!isThread(thread)) {
            return UNKNOWN;
        }
        if (!mayBe(HOUR, hour) || !mayBe(WORDS, words) || !mayBe(TENSION, tension)) {
            return BAD_VALUE;
        }
        if (!now.cards.hasRoomFor(1)) {
            return FULL;
        }
        history.record(now);
        now.cards.append(thread, hour, words, tension, 0);
        return now.cards.size() - 1;
    }

    public int addAll() {
        int fault = text.read();
        if (fault != NONE) {
            return FAULTY_TEXT - fault;
        }
        Cards written = text.cardsRead();
        if (!now.cards.hasRoomFor(written.size())) {
            return FULL;
        }
        history.record(now);
        for (int card = 0; card < written.size(); card++) {
            now.cards.appendFrom(written, card);
        }
        return written.size();
    }

    public int change(int card, int what, int value) {
        if (!now.cards.has(card)) {
            return UNKNOWN;
        }
        if (what < 0 || what >= FLASHBACK) {
            return BAD_VALUE;
        }
        // change() leaves the thread out, so its numbers are one behind those of card().
        int kind = what + 1;
        if (!mayBe(kind, value)) {
            return BAD_VALUE;
        }
        int previous = now.cards.number(card, kind);
        if (previous == value) {
            return NONE;
        }
        history.record(now);
        now.cards.put(card, kind, value);
        return previous;
    }

    // ---- the wall

    public int pin(int card, int scene, int place) {
        int fault = pinFault(card, scene, place);
        if (fault != FINE) {
            return fault;
        }
        if (now.wall.slotOf(card) == slot(scene, place)) {
            return NONE;
        }
        history.record(now);
        now.wall.takeOff(card);
        now.wall.putIn(card, scene, place);
        return breaksNow(now.cards.number(card, THREAD));
    }

    public int unpin(int card) {
        if (!now.cards.has(card)) {
            return UNKNOWN;
        }
        if (now.wall.slotOf(card) == NONE) {
            return NONE;
        }
        history.record(now);
        now.wall.takeOff(card);
        return breaksNow(now.cards.number(card, THREAD));
    }

    public int swap(int one, int other) {
        if (!now.cards.has(one) || !now.cards.has(other)) {
            return UNKNOWN;
        }
        if (one == other) {
            return BAD_VALUE;
        }
        int slotOfOne = now.wall.slotOf(one);
        int slotOfOther = now.wall.slotOf(other);
        if (slotOfOne == NONE || slotOfOther == NONE) {
            return NOT_POSSIBLE;
        }
        history.record(now);
        now.wall.exchange(slotOfOne, slotOfOther);
        return breaksNow(ANY);
    }

    public int straighten(int thread) {
        if (!isThread(thread)) {
            return UNKNOWN;
        }
        reading.read(now, now.wall);
        straightRow.gather(reading, thread);
        straightRow.sort();
        int moved = straightRow.moved();
        if (moved == 0) {
            return NONE;
        }
        history.record(now);
        straightRow.putOn(now.wall);
        return moved;
    }

    public int insertScene(int scene) {
        if (!isScene(scene)) {
            return UNKNOWN;
        }
        if (now.wall.sizeOf(SCENES - 1) > 0) {
            return FULL;
        }
        history.record(now);
        // The empty last scene goes to its place step by step, and so moves the others on.
        for (int behind = SCENES - 1; behind > scene; behind--) {
            now.wall.exchangeScenes(behind - 1, behind);
        }
        return now.wall.scenesWithCards();
    }

    public int removeScene(int scene) {
        if (!isScene(scene)) {
            return UNKNOWN;
        }
        if (now.wall.sizeOf(scene) > 0) {
            return NOT_POSSIBLE;
        }
        if (!now.wall.hasCards(scene + 1, SCENES)) {
            return NONE;
        }
        history.record(now);
        // The empty scene goes to the end step by step, and so moves the others up.
        for (int behind = scene + 1; behind < SCENES; behind++) {
            now.wall.exchangeScenes(behind - 1, behind);
        }
        return now.wall.scenesWithCards();
    }

    public int swapScenes(int one, int other) {
        if (!isScene(one) || !isScene(other)) {
            return UNKNOWN;
        }
        if (one == other) {
            return BAD_VALUE;
        }
        if (now.wall.sizeOf(one) == 0 && now.wall.sizeOf(other) == 0) {
            return NONE;
        }
        history.record(now);
        now.wall.exchangeScenes(one, other);
        return breaksNow(ANY);
    }

    public int set(int which, int value) {
        if (which < 0 || which >= SETTINGS) {
            return BAD_VALUE;
        }
        if (value < LEAST_SETTING[which] || value > MOST_SETTING[which]) {
            return BAD_VALUE;
        }
        int previous = now.setting(which);
        if (previous == value) {
            return NONE;
        }
        history.record(now);
        now.putSetting(which, value);
        return previous;
    }

    // ---- texts

    public int type(char character) {
        return text.append(character) ? text.length() : FULL;
    }

    public int clearText() {
        int length = text.length();
        text.clear();
        return length;
    }

    // ---- history

    public int undo() {
        return history.takeBack(now) ? history.size() : NONE;
    }

    public int keep() {
        snapshot.copyFrom(now);
        kept = true;
        return now.wall.cards();
    }

    public int restore() {
        if (!kept) {
            return NONE;
        }
        history.record(now);
        now.copyFrom(snapshot);
        return now.wall.cards();
    }

    // ---- what is told

    public int card(int card, int what) {
        if (!now.cards.has(card)) {
            return UNKNOWN;
        }
        if (what >= 0 && what < KINDS) {
            return now.cards.number(card, what);
        }
        reading.read(now, now.wall);
        int rank = reading.rankOf(card);
        switch (what) {
            case 5:
                return reading.sceneAt(rank);
            case 6:
                return reading.placeAt(rank);
            case 7:
                return reading.isBreak(rank) ? 1 : 0;
            case 8:
                return rank;
            case 9:
                return reading.cardAt(reading.rankAhead(rank));
            default:
                return BAD_VALUE;
        }
    }

    public int at(int scene, int place) {
        if (!isScene(scene)) {
            return UNKNOWN;
        }
        if (place < 0) {
            return BAD_VALUE;
        }
        return now.wall.cardIn(scene, place);
    }

    public int thread(int thread, int what) {
        if (!isThread(thread)) {
            return UNKNOWN;
        }
        reading.read(now, now.wall);
        switch (what) {
            case 0:
                return reading.tally(ON_WALL, thread, ANY);
            case 1:
                return now.cards.ofThread(thread) - reading.tally(ON_WALL, thread, ANY);
            case 2:
                return reading.tally(STRAIGHT, thread, ANY);
            case 3:
                return reading.tally(BREAKS, thread, ANY);
            case 4:
                straightRow.gather(reading, thread);
                return straightRow.fewestMoves();
            case 5:
                return reading.tally(THREAD_HOLES, thread, ANY);
            case 6:
                return reading.tally(TIME_HOLES, thread, ANY);
            case 7:
                return reading.tally(WORDS, thread, ANY);
            default:
                return BAD_VALUE;
        }
    }

    public int scene(int scene, int what) {
        if (!isScene(scene)) {
            return UNKNOWN;
        }
        reading.read(now, now.wall);
        tensions.measure(now);
        switch (what) {
            case 0:
                return now.wall.sizeOf(scene);
            case 1:
                return reading.tally(WORDS, ANY, scene);
            case 2:
                return reading.threadsIn(scene);
            case 3:
                return now.wall.isHole(scene) ? 1 : 0;
            case 4:
                return tensions.rises(scene) ? 1 : 0;
            case 5:
                return reading.tally(BREAKS, ANY, scene);
            case 6:
                return tensions.climbTo(scene);
            default:
                return BAD_VALUE;
        }
    }

    public float tension(int scene) {
        tensions.measure(now);
        return tensions.tensionOf(scene);
    }

    public int broken(int rank) {
        if (rank < 0) {
            return BAD_VALUE;
        }
        reading.read(now, now.wall);
        return reading.breakNumber(rank);
    }

    public int would(int card, int scene, int place) {
        int fault = pinFault(card, scene, place);
        if (fault != FINE) {
            return fault;
        }
        readWithout(card);
        int rank = trial.cardsAheadOf(slot(scene, place));
        return reading.tally(BREAKS, ANY, ANY) + breaksMadeBy(card, rank);
    }

    public int best(int card) {
        if (!now.cards.has(card)) {
            return UNKNOWN;
        }
        readWithout(card);
        int best = NONE;
        int fewest = 0;
        for (int scene = 0; scene < SCENES; scene++) {
            int size = trial.sizeOf(scene);
            int start = trial.cardsAheadOf(slot(scene, 0));
            // A scene of 6 has a place 6 of nobody, so the places end ahead of it.
            for (int place = 0; place <= size && place < PLACES && size < PLACES; place++) {
                int breaks = breaksMadeBy(card, start + place);
                if (best == NONE || breaks < fewest) {
                    best = 10 * scene + place;
                    fewest = breaks;
                }
            }
        }
        return best;
    }

    public int count(int what) {
        if (what >= 10 && what < 10 + SETTINGS) {
            return now.setting(what - 10);
        }
        reading.read(now, now.wall);
        switch (what) {
            case 0:
                return now.cards.size();
            case 1:
                return now.wall.cards();
            case 2:
                return now.wall.scenesWithCards();
            case 3:
                return reading.tally(BREAKS, ANY, ANY);
            case 4:
                return reading.tally(THREAD_HOLES, ANY, ANY);
            case 5:
                return reading.tally(TIME_HOLES, ANY, ANY);
            case 6:
                return now.wall.holes();
            case 7:
                return reading.tally(WORDS, ANY, ANY);
            case 8:
                tensions.measure(now);
                return tensions.longestClimb();
            case 9:
                return threadsThatStand();
            case 13:
                return history.size();
            case 14:
                return text.length();
            default:
                return BAD_VALUE;
        }
    }

    public int spanBits() {
        tensions.measure(now);
        return bitsOf(tensions.span());
    }

    // ---- what several calls need

    private static boolean isThread(int thread) {
        return thread >= 0 && thread < THREADS;
    }

    private static boolean isScene(int scene) {
        return scene >= 0 && scene < SCENES;
    }

    private static boolean mayBe(int kind, int value) {
        return kind >= 0 && kind < KINDS && value >= LEAST[kind] && value <= MOST[kind];
    }

    private static int slot(int scene, int place) {
        return scene * PLACES + place;
    }

    private int pinFault(int card, int scene, int place) {
        if (!now.cards.has(card) || !isScene(scene)) {
            return UNKNOWN;
        }
        int others = now.wall.sizeOf(scene);
        if (now.wall.isIn(card, scene)) {
            others--;
        }
        if (others >= PLACES) {
            return FULL;
        }
        return place < 0 || place > others ? BAD_VALUE : FINE;
    }

    private int breaksNow(int thread) {
        reading.read(now, now.wall);
        return reading.tally(BREAKS, thread, ANY);
    }

    private int threadsThatStand() {
        int threads = 0;
        for (int thread = 0; thread < THREADS; thread++) {
            if (reading.tally(BREAKS, thread, ANY) == 0) {
                threads++;
            }
        }
        return threads;
    }

    /** Reads the wall as it would be with this card in the box, and the straight row of its thread. */
    private void readWithout(int card) {
        trial.copyFrom(now.wall);
        trial.takeOff(card);
        reading.read(now, trial);
        straightRow.gather(reading, now.cards.number(card, THREAD));
    }

    /** How many breaks come with the card, put in at a rank of what readWithout() has read. */
    private int breaksMadeBy(int card, int rank) {
        if (now.cards.number(card, FLASHBACK) == 1) {
            return 0;
        }
        return straightRow.breaksMadeBy(now.cards.number(card, HOUR), rank);
    }

    /** The bits of a float that is not negative; LANGUAGE.md does not leave Float.floatToIntBits. */
    private static int bitsOf(float value) {
        float scaled = value;
        int exponent = 127;
        for (; scaled >= 2.0f && exponent < 254; exponent++) {
            scaled = scaled / 2.0f;
        }
        for (; scaled < 1.0f && exponent > 1; exponent--) {
            scaled = scaled * 2.0f;
        }
        // The leading bit of the fraction, where there is one, makes up for the exponent's 1.
        return ((exponent - 1) << 23) + (int) (scaled * 8388608.0f);
    }

    /** Cards with their numbers, in a row. */
    private static final class Cards {
        private final int[] numbers = new int[CARDS * KINDS];
        private int size;

        int size() {
            return size;
        }

        boolean has(int card) {
            return card >= 0 && card < size;
        }

        boolean hasRoomFor(int more) {
            return more <= CARDS - size;
        }

        void clear() {
            size = 0;
        }

        void copyFrom(Cards other) {
            System.arraycopy(other.numbers, 0, numbers, 0, numbers.length);
            size = other.size;
        }

        int number(int card, int kind) {
            return isNumber(card, kind) ? numbers[card * KINDS + kind] : NONE;
        }

        void put(int card, int kind, int value) {
            if (isNumber(card, kind)) {
                numbers[card * KINDS + kind] = value;
            }
        }

        private boolean isNumber(int card, int kind) {
            return card >= 0 && card < size && card < CARDS && kind >= 0 && kind < KINDS;
        }

        void append(int thread, int hour, int words, int tension, int flashback) {
            if (!hasRoomFor(1)) {
                return;
            }
            int card = size;
            size++;
            put(card, THREAD, thread);
            put(card, HOUR, hour);
            put(card, WORDS, words);
            put(card, TENSION, tension);
            put(card, FLASHBACK, flashback);
        }

        void appendFrom(Cards other, int card) {
            if (!hasRoomFor(1)) {
                return;
            }
            int copy = size;
            size++;
            for (int kind = 0; kind < KINDS; kind++) {
                put(copy, kind, other.number(card, kind));
            }
        }

        int ofThread(int thread) {
            int cards = 0;
            for (int card = 0; card < size; card++) {
                if (number(card, THREAD) == thread) {
                    cards++;
                }
            }
            return cards;
        }
    }

    /** The rows of all scenes, one behind the other; what is free in a row stands behind its cards. */
    private static final class Wall {
        private final int[] slots = new int[SCENES * PLACES];

        Wall() {
            for (int slot = 0; slot < slots.length; slot++) {
                slots[slot] = NONE;
            }
        }

        void copyFrom(Wall other) {
            System.arraycopy(other.slots, 0, slots, 0, slots.length);
        }

        int cardAt(int slot) {
            return slot >= 0 && slot < slots.length ? slots[slot] : NONE;
        }

        void put(int slot, int card) {
            if (slot >= 0 && slot < slots.length) {
                slots[slot] = card;
            }
        }

        int cardIn(int scene, int place) {
            return isScene(scene) && place >= 0 && place < PLACES ? cardAt(slot(scene, place)) : NONE;
        }

        int sizeOf(int scene) {
            int size = 0;
            for (int place = 0; place < PLACES; place++) {
                if (cardIn(scene, place) != NONE) {
                    size++;
                }
            }
            return size;
        }

        int cardsAheadOf(int slot) {
            int cards = 0;
            for (int earlier = 0; earlier < slot && earlier < slots.length; earlier++) {
                if (cardAt(earlier) != NONE) {
                    cards++;
                }
            }
            return cards;
        }

        int cards() {
            return cardsAheadOf(slots.length);
        }

        int slotOf(int card) {
            for (int slot = 0; slot < slots.length; slot++) {
                if (cardAt(slot) == card) {
                    return slot;
                }
            }
            return NONE;
        }

        boolean isIn(int card, int scene) {
            int slot = slotOf(card);
            return slot != NONE && slot / PLACES == scene;
        }

        void takeOff(int card) {
            int slot = slotOf(card);
            if (slot == NONE) {
                return;
            }
            int last = slot(slot / PLACES, PLACES - 1);
            for (int free = slot; free < last; free++) {
                put(free, cardAt(free + 1));
            }
            put(last, NONE);
        }

        /** The scene is to have room. */
        void putIn(int card, int scene, int place) {
            int wanted = slot(scene, place);
            for (int free = slot(scene, PLACES - 1); free > wanted; free--) {
                put(free, cardAt(free - 1));
            }
            put(wanted, card);
        }

        void exchange(int slot, int otherSlot) {
            int card = cardAt(slot);
            put(slot, cardAt(otherSlot));
            put(otherSlot, card);
        }

        void exchangeScenes(int one, int other) {
            for (int place = 0; place < PLACES; place++) {
                exchange(slot(one, place), slot(other, place));
            }
        }

        int scenesWithCards() {
            int scenes = 0;
            for (int scene = 0; scene < SCENES; scene++) {
                if (sizeOf(scene) > 0) {
                    scenes++;
                }
            }
            return scenes;
        }

        /** Whether there are cards in the scenes from one on, up to ahead of another. */
        boolean hasCards(int from, int end) {
            for (int scene = from; scene < end && scene < SCENES; scene++) {
                if (sizeOf(scene) > 0) {
                    return true;
                }
            }
            return false;
        }

        boolean isHole(int scene) {
            return sizeOf(scene) == 0 && hasCards(0, scene) && hasCards(scene + 1, SCENES);
        }

        int holes() {
            int holes = 0;
            for (int scene = 0; scene < SCENES; scene++) {
                if (isHole(scene)) {
                    holes++;
                }
            }
            return holes;
        }
    }

    /** All that undo() and restore() bring back. */
    private static final class State {
        private final Cards cards = new Cards();
        private final Wall wall = new Wall();
        private final int[] settings = {3, 100, 100};

        void copyFrom(State other) {
            cards.copyFrom(other.cards);
            wall.copyFrom(other.wall);
            System.arraycopy(other.settings, 0, settings, 0, settings.length);
        }

        int setting(int which) {
            return which >= 0 && which < settings.length ? settings[which] : NONE;
        }

        void putSetting(int which, int value) {
            if (which >= 0 && which < settings.length) {
                settings[which] = value;
            }
        }
    }

    /** The latest states, in a ring. */
    private static final class History {
        private final State[] states = new State[STATES];
        private int oldest;
        private int size;

        History() {
            for (int index = 0; index < states.length; index++) {
                states[index] = new State();
            }
        }

        int size() {
            return size;
        }

        void record(State state) {
            // With a full ring this is the oldest state, which is dropped so.
            State room = stateAfter(size);
            if (room == null) {
                return;
            }
            room.copyFrom(state);
            if (size < STATES) {
                size++;
            } else {
                oldest = (oldest + 1) % STATES;
            }
        }

        /** Answers whether there was a state. */
        boolean takeBack(State into) {
            if (size == 0) {
                return false;
            }
            State latest = stateAfter(size - 1);
            if (latest == null) {
                return false;
            }
            into.copyFrom(latest);
            size--;
            return true;
        }

        private State stateAfter(int steps) {
            int index = (oldest + steps) % STATES;
            return index >= 0 && index < states.length ? states[index] : null;
        }
    }

    /** The cards of a wall in the order in which they are read; a rank without a card tells NONE. */
    private static final class Reading {
        private final Cards cards = new Cards();
        private final int[] names = new int[CARDS];
        private final int[] slots = new int[CARDS];
        /** The rank of the card ahead in the row of the thread, and in its straight row. */
        private final int[] ahead = new int[CARDS];
        private final int[] straightAhead = new int[CARDS];
        /** The rank of the last card of each thread so far. */
        private final int[] last = new int[THREADS];
        private final int[] lastStraight = new int[THREADS];
        private int mostScenesWithout;
        private int mostHoursWithout;
        private int size;

        void read(State state, Wall wall) {
            size = 0;
            cards.clear();
            mostScenesWithout = state.setting(SCENES_WITHOUT);
            mostHoursWithout = state.setting(HOURS_WITHOUT);
            for (int thread = 0; thread < THREADS; thread++) {
                last[thread] = NONE;
                lastStraight[thread] = NONE;
            }
            for (int slot = 0; slot < SCENES * PLACES; slot++) {
                int card = wall.cardAt(slot);
                if (state.cards.has(card)) {
                    readCard(state.cards, card, slot);
                }
            }
        }

        private void readCard(Cards from, int card, int slot) {
            int rank = size;
            int thread = from.number(card, THREAD);
            if (rank < 0 || rank >= CARDS || !isThread(thread)) {
                return;
            }
            size++;
            cards.appendFrom(from, card);
            names[rank] = card;
            slots[rank] = slot;
            ahead[rank] = last[thread];
            last[thread] = rank;
            if (from.number(card, FLASHBACK) == 1) {
                straightAhead[rank] = NONE;
            } else {
                straightAhead[rank] = lastStraight[thread];
                lastStraight[thread] = rank;
            }
        }

        int size() {
            return size;
        }

        private int valueAt(int[] values, int rank) {
            return rank >= 0 && rank < size && rank < values.length ? values[rank] : NONE;
        }

        int cardAt(int rank) {
            return valueAt(names, rank);
        }

        int slotAt(int rank) {
            return valueAt(slots, rank);
        }

        int sceneAt(int rank) {
            int slot = valueAt(slots, rank);
            return slot == NONE ? NONE : slot / PLACES;
        }

        int placeAt(int rank) {
            int slot = valueAt(slots, rank);
            return slot == NONE ? NONE : slot % PLACES;
        }

        int rankAhead(int rank) {
            return valueAt(ahead, rank);
        }

        int hourAt(int rank) {
            return cards.number(rank, HOUR);
        }

        int rankOf(int card) {
            for (int rank = 0; rank < size; rank++) {
                if (cardAt(rank) == card) {
                    return rank;
                }
            }
            return NONE;
        }

        boolean isOf(int rank, int thread) {
            return thread == ANY || cards.number(rank, THREAD) == thread;
        }

        boolean isStraight(int rank) {
            return cards.number(rank, FLASHBACK) == 0;
        }

        boolean isBreak(int rank) {
            int before = valueAt(straightAhead, rank);
            return before != NONE && cards.number(rank, HOUR) < cards.number(before, HOUR);
        }

        private boolean endsThreadHole(int rank) {
            int before = rankAhead(rank);
            return before != NONE && sceneAt(rank) - sceneAt(before) - 1 > mostScenesWithout;
        }

        private boolean endsTimeHole(int rank) {
            int before = valueAt(straightAhead, rank);
            return before != NONE
                    && cards.number(rank, HOUR) - cards.number(before, HOUR) > mostHoursWithout;
        }

        /** Adds up what the cards of a thread in a scene (or ANY) have of something. */
        int tally(int what, int thread, int scene) {
            int sum = 0;
            for (int rank = 0; rank < size; rank++) {
                if (isOf(rank, thread) && (scene == ANY || sceneAt(rank) == scene)) {
                    sum += worth(what, rank);
                }
            }
            return sum;
        }

        private int worth(int what, int rank) {
            switch (what) {
                case ON_WALL:
                    return 1;
                case WORDS:
                    return cards.number(rank, WORDS);
                case STRAIGHT:
                    return isStraight(rank) ? 1 : 0;
                case BREAKS:
                    return isBreak(rank) ? 1 : 0;
                case THREAD_HOLES:
                    return endsThreadHole(rank) ? 1 : 0;
                case TIME_HOLES:
                    return endsTimeHole(rank) ? 1 : 0;
                default:
                    return 0;
            }
        }

        int threadsIn(int scene) {
            int threads = 0;
            for (int rank = 0; rank < size; rank++) {
                if (sceneAt(rank) == scene) {
                    threads |= 1 << cards.number(rank, THREAD);
                }
            }
            return threads;
        }

        int breakNumber(int number) {
            int breaks = 0;
            for (int rank = 0; rank < size; rank++) {
                if (isBreak(rank)) {
                    if (breaks == number) {
                        return cardAt(rank);
                    }
                    breaks++;
                }
            }
            return NONE;
        }
    }

    /** The straight row of one thread; its cards keep their index, and sorted tells their order by hours. */
    private static final class StraightRow {
        private final int[] ranks = new int[CARDS];
        private final int[] cards = new int[CARDS];
        private final int[] hours = new int[CARDS];
        private final int[] slots = new int[CARDS];
        private final int[] sorted = new int[CARDS];
        /** The longest row without a break that ends with each card. */
        private final int[] longest = new int[CARDS];
        private int size;

        void gather(Reading reading, int thread) {
            size = 0;
            for (int rank = 0; rank < reading.size() && size < CARDS; rank++) {
                if (reading.isOf(rank, thread) && reading.isStraight(rank)) {
                    ranks[size] = rank;
                    cards[size] = reading.cardAt(rank);
                    hours[size] = reading.hourAt(rank);
                    slots[size] = reading.slotAt(rank);
                    size++;
                }
            }
        }

        private int valueAt(int[] values, int index) {
            return index >= 0 && index < size && index < values.length ? values[index] : NONE;
        }

        /** How many breaks more the row would have with a card of this hour put in at a rank. */
        int breaksMadeBy(int hour, int rank) {
            int earlier = 0;
            while (earlier < size && valueAt(ranks, earlier) < rank) {
                earlier++;
            }
            boolean hasAhead = earlier > 0;
            boolean hasBehind = earlier < size;
            int hourAhead = valueAt(hours, earlier - 1);
            int hourBehind = valueAt(hours, earlier);
            int breaks = 0;
            if (hasAhead && hour < hourAhead) {
                breaks++;
            }
            if (hasBehind && hourBehind < hour) {
                breaks++;
            }
            // Those two do not follow one another any more.
            if (hasAhead && hasBehind && hourBehind < hourAhead) {
                breaks--;
            }
            return breaks;
        }

        int fewestMoves() {
            int longestOfAll = 0;
            for (int index = 0; index < size && index < CARDS; index++) {
                int before = 0;
                for (int earlier = 0; earlier < index; earlier++) {
                    if (hours[earlier] <= hours[index]) {
                        before = Math.max(before, longest[earlier]);
                    }
                }
                longest[index] = before + 1;
                longestOfAll = Math.max(longestOfAll, longest[index]);
            }
            return size - longestOfAll;
        }

        void sort() {
            for (int index = 0; index < size && index < CARDS; index++) {
                int free = index;
                while (free > 0 && standsBefore(index, sorted[free - 1])) {
                    sorted[free] = sorted[free - 1];
                    free--;
                }
                sorted[free] = index;
            }
        }

        private boolean standsBefore(int one, int other) {
            int difference = valueAt(hours, one) - valueAt(hours, other);
            return difference < 0 || (difference == 0 && valueAt(cards, one) < valueAt(cards, other));
        }

        /** How many cards come to another place; to be asked when sorted. */
        int moved() {
            int moved = 0;
            for (int index = 0; index < size; index++) {
                if (valueAt(sorted, index) != index) {
                    moved++;
                }
            }
            return moved;
        }

        void putOn(Wall wall) {
            for (int index = 0; index < size; index++) {
                wall.put(valueAt(slots, index), valueAt(cards, valueAt(sorted, index)));
            }
        }
    }

    /** The tension of the scenes, and how it rises. */
    private static final class Tensions {
        private final float[] values = new float[SCENES];
        /** The scenes of the climb that ends with each scene; 0 without cards. */
        private final int[] climbs = new int[SCENES];

        void measure(State state) {
            float rise = (float) state.setting(RISE) / 100.0f;
            int before = NONE;
            for (int scene = 0; scene < SCENES; scene++) {
                values[scene] = -1.0f;
                climbs[scene] = 0;
                if (state.wall.sizeOf(scene) > 0) {
                    values[scene] = measureScene(state, scene);
                    boolean rises = before != NONE && values[scene] - tensionOf(before) >= rise;
                    climbs[scene] = rises ? climbTo(before) + 1 : 1;
                    before = scene;
                }
            }
        }

        private static float measureScene(State state, int scene) {
            float sum = 0.0f;
            int words = 0;
            for (int place = 0; place < state.wall.sizeOf(scene); place++) {
                int card = state.wall.cardIn(scene, place);
                int wordsOfCard = state.cards.number(card, WORDS);
                sum = sum + (float) state.cards.number(card, TENSION) * (float) wordsOfCard;
                words += wordsOfCard;
            }
            return words > 0 ? sum / (float) words : -1.0f;
        }

        float tensionOf(int scene) {
            return scene >= 0 && scene < values.length ? values[scene] : -1.0f;
        }

        int climbTo(int scene) {
            return scene >= 0 && scene < climbs.length ? climbs[scene] : 0;
        }

        /** All scenes of a climb but the first one rise. */
        boolean rises(int scene) {
            return climbTo(scene) > 1;
        }

        int longestClimb() {
            int longest = 0;
            for (int scene = 0; scene < SCENES; scene++) {
                longest = Math.max(longest, climbTo(scene));
            }
            return longest;
        }

        float span() {
            boolean any = false;
            float least = 0.0f;
            float greatest = 0.0f;
            for (int scene = 0; scene < SCENES; scene++) {
                if (climbTo(scene) > 0) {
                    float value = tensionOf(scene);
                    least = !any || value < least ? value : least;
                    greatest = !any || value > greatest ? value : greatest;
                    any = true;
                }
            }
            return greatest - least;
        }
    }

    /** The text, and how cards are read from it. */
    private static final class CardText {
        private final char[] signs = new char[SIGNS];
        private final Cards cards = new Cards();
        private int length;
        private int position;
        private boolean faulty;

        int length() {
            return length;
        }

        void clear() {
            length = 0;
        }

        /** Answers whether there was room. */
        boolean append(char sign) {
            if (length < 0 || length >= signs.length) {
                return false;
            }
            signs[length] = sign;
            length++;
            return true;
        }

        Cards cardsRead() {
            return cards;
        }

        /** Reads the cards; answers the fault of the text, or NONE. */
        int read() {
            cards.clear();
            position = 0;
            faulty = false;
            readCard();
            // Each round reads a sign at least, or finds the fault.
            for (int round = 0; round < SIGNS && !faulty && position < length; round++) {
                readSign(';');
                readCard();
            }
            return faulty ? position : NONE;
        }

        private void readCard() {
            int thread = readThread();
            int hour = readNumber(HOUR);
            readSign(',');
            int words = readNumber(WORDS);
            readSign(',');
            int tension = readNumber(TENSION);
            int flashback = 0;
            if (!faulty && isAhead('*')) {
                flashback = 1;
                position++;
            }
            if (!faulty) {
                cards.append(thread, hour, words, tension, flashback);
            }
        }

        private boolean hasAhead() {
            return position >= 0 && position < length && position < signs.length;
        }

        private boolean isAhead(char sign) {
            return hasAhead() && signs[position] == sign;
        }

        private void readSign(char sign) {
            if (faulty) {
                return;
            }
            if (isAhead(sign)) {
                position++;
            } else {
                faulty = true;
            }
        }

        private int readThread() {
            if (faulty) {
                return NONE;
            }
            int thread = hasAhead() ? signs[position] - 'A' : NONE;
            if (isThread(thread)) {
                position++;
            } else {
                faulty = true;
            }
            return thread;
        }

        private int digitAhead() {
            int digit = hasAhead() ? signs[position] - '0' : NONE;
            return digit >= 0 && digit <= 9 ? digit : NONE;
        }

        private int readNumber(int kind) {
            if (faulty || kind < 0 || kind >= KINDS) {
                return NONE;
            }
            int number = digitAhead();
            // All least numbers have one digit, so a first digit below it is no number's first.
            if (number < LEAST[kind]) {
                faulty = true;
                return NONE;
            }
            position++;
            while (position < length) {
                int digit = digitAhead();
                if (digit == NONE || number == 0 || number * 10 + digit > MOST[kind]) {
                    return number;
                }
                number = number * 10 + digit;
                position++;
            }
            return number;
        }
    }
}
