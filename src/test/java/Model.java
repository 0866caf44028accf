import java.util.ArrayDeque;
import java.util.ArrayList;
import java.util.Comparator;
import java.util.Deque;
import java.util.HashSet;
import java.util.List;
import java.util.Set;
import java.util.regex.Matcher;
import java.util.regex.Pattern;

/**
 * The document once more, written as differently from StoryWall as it goes:
 * lists of objects, whole copies, and every question answered from scratch.
 */
final class Model {
    private static final int UNKNOWN = -1;
    private static final int BAD_VALUE = -2;
    private static final int FULL = -3;
    private static final int NOT_POSSIBLE = -4;
    private static final int NONE = -5;

    private static final String ONE_CARD = "[A-F](0|[1-9][0-9]{0,3}),([1-9][0-9]{0,2}),(100|0|[1-9][0-9]?)(\\*?)";
    private static final Pattern CARDS = Pattern.compile(ONE_CARD + "(;" + ONE_CARD + ")*");

    private static final class Card {
        final int name;
        final int thread;
        final int hour;
        final int words;
        final int tension;
        final boolean flashback;

        Card(int name, int thread, int hour, int words, int tension, boolean flashback) {
            this.name = name;
            this.thread = thread;
            this.hour = hour;
            this.words = words;
            this.tension = tension;
            this.flashback = flashback;
        }
    }

    private static final class State {
        final List<Card> cards = new ArrayList<>();
        final List<List<Integer>> scenes = new ArrayList<>();
        int[] settings = {3, 100, 100};

        State() {
            for (int i = 0; i < 16; i++) {
                scenes.add(new ArrayList<>());
            }
        }

        State copy() {
            State copy = new State();
            copy.cards.addAll(cards);
            for (int i = 0; i < 16; i++) {
                copy.scenes.get(i).addAll(scenes.get(i));
            }
            copy.settings = settings.clone();
            return copy;
        }

        List<Card> read() {
            List<Card> all = new ArrayList<>();
            for (List<Integer> scene : scenes) {
                for (int card : scene) {
                    all.add(cards.get(card));
                }
            }
            return all;
        }

        List<Card> row(int thread) {
            List<Card> row = read();
            row.removeIf(c -> c.thread != thread);
            return row;
        }

        List<Card> straight(int thread) {
            List<Card> row = row(thread);
            row.removeIf(c -> c.flashback);
            return row;
        }

        int sceneOf(int card) {
            for (int i = 0; i < 16; i++) {
                if (scenes.get(i).contains(card)) {
                    return i;
                }
            }
            return NONE;
        }

        int placeOf(int card) {
            int scene = sceneOf(card);
            return scene == NONE ? NONE : scenes.get(scene).indexOf(card);
        }

        Set<Integer> breaks(int thread) {
            Set<Integer> broken = new HashSet<>();
            List<Card> row = straight(thread);
            for (int i = 1; i < row.size(); i++) {
                if (row.get(i).hour < row.get(i - 1).hour) {
                    broken.add(row.get(i).name);
                }
            }
            return broken;
        }

        Set<Integer> breaks() {
            Set<Integer> broken = new HashSet<>();
            for (int thread = 0; thread < 6; thread++) {
                broken.addAll(breaks(thread));
            }
            return broken;
        }

        int scenesWithCards() {
            return (int) scenes.stream().filter(s -> !s.isEmpty()).count();
        }

        void place(int card, int scene, int place) {
            for (List<Integer> row : scenes) {
                row.remove(Integer.valueOf(card));
            }
            scenes.get(scene).add(place, card);
        }
    }

    private State state = new State();
    private State snapshot = null;
    private final Deque<State> history = new ArrayDeque<>();
    private String text = "";

    private void record() {
        history.addLast(state.copy());
        if (history.size() > 4) {
            history.removeFirst();
        }
    }

    private boolean noCard(int card) {
        return card < 0 || card >= state.cards.size();
    }

    private static boolean no(int value, int least, int most) {
        return value < least || value > most;
    }

    int add(int thread, int hour, int words, int tension) {
        if (no(thread, 0, 5)) {
            return UNKNOWN;
        }
        if (no(hour, 0, 9999) || no(words, 1, 999) || no(tension, 0, 100)) {
            return BAD_VALUE;
        }
        if (state.cards.size() == 40) {
            return FULL;
        }
        record();
        state.cards.add(new Card(state.cards.size(), thread, hour, words, tension, false));
        return state.cards.size() - 1;
    }

    /** The first index up to which (with it) nothing of a text of cards begins so; -1 if the text is one. */
    private int fault() {
        for (int end = 1; end <= text.length(); end++) {
            Matcher matcher = CARDS.matcher(text.substring(0, end));
            if (!matcher.matches() && !matcher.hitEnd()) {
                return end - 1;
            }
        }
        return CARDS.matcher(text).matches() ? -1 : text.length();
    }

    int addAll() {
        int fault = fault();
        if (fault >= 0) {
            return -100 - fault;
        }
        String[] written = text.split(";");
        if (state.cards.size() + written.length > 40) {
            return FULL;
        }
        record();
        for (String one : written) {
            boolean flashback = one.endsWith("*");
            String[] numbers = one.substring(1).replace("*", "").split(",");
            state.cards.add(new Card(state.cards.size(), one.charAt(0) - 'A', Integer.parseInt(numbers[0]),
                    Integer.parseInt(numbers[1]), Integer.parseInt(numbers[2]), flashback));
        }
        return written.length;
    }

    int change(int card, int what, int value) {
        if (noCard(card)) {
            return UNKNOWN;
        }
        if (no(what, 0, 3)) {
            return BAD_VALUE;
        }
        Card c = state.cards.get(card);
        int[] previous = {c.hour, c.words, c.tension, c.flashback ? 1 : 0};
        int[] least = {0, 1, 0, 0};
        int[] most = {9999, 999, 100, 1};
        if (no(value, least[what], most[what])) {
            return BAD_VALUE;
        }
        if (previous[what] == value) {
            return NONE;
        }
        record();
        int[] next = previous.clone();
        next[what] = value;
        state.cards.set(card, new Card(card, c.thread, next[0], next[1], next[2], next[3] == 1));
        return previous[what];
    }

    private int pinError(int card, int scene, int place) {
        if (noCard(card) || no(scene, 0, 15)) {
            return UNKNOWN;
        }
        List<Integer> others = new ArrayList<>(state.scenes.get(scene));
        others.remove(Integer.valueOf(card));
        if (others.size() == 6) {
            return FULL;
        }
        return no(place, 0, others.size()) ? BAD_VALUE : 0;
    }

    int pin(int card, int scene, int place) {
        int error = pinError(card, scene, place);
        if (error != 0) {
            return error;
        }
        State then = state.copy();
        then.place(card, scene, place);
        if (then.scenes.equals(state.scenes)) {
            return NONE;
        }
        record();
        state = then;
        return state.breaks(state.cards.get(card).thread).size();
    }

    int unpin(int card) {
        if (noCard(card)) {
            return UNKNOWN;
        }
        int scene = state.sceneOf(card);
        if (scene == NONE) {
            return NONE;
        }
        record();
        state.scenes.get(scene).remove(Integer.valueOf(card));
        return state.breaks(state.cards.get(card).thread).size();
    }

    int swap(int one, int other) {
        if (noCard(one) || noCard(other)) {
            return UNKNOWN;
        }
        if (one == other) {
            return BAD_VALUE;
        }
        if (state.sceneOf(one) == NONE || state.sceneOf(other) == NONE) {
            return NOT_POSSIBLE;
        }
        record();
        for (List<Integer> scene : state.scenes) {
            scene.replaceAll(c -> c == one ? other : c == other ? one : c);
        }
        return state.breaks().size();
    }

    int straighten(int thread) {
        if (no(thread, 0, 5)) {
            return UNKNOWN;
        }
        List<Card> before = state.straight(thread);
        List<Card> after = new ArrayList<>(before);
        after.sort(Comparator.<Card>comparingInt(c -> c.hour).thenComparingInt(c -> c.name));
        State then = state.copy();
        int moved = 0;
        for (int i = 0; i < before.size(); i++) {
            int name = before.get(i).name;
            if (name != after.get(i).name) {
                moved++;
                then.scenes.get(state.sceneOf(name)).set(state.placeOf(name), after.get(i).name);
            }
        }
        if (moved == 0) {
            return NONE;
        }
        record();
        state = then;
        return moved;
    }

    int insertScene(int scene) {
        if (no(scene, 0, 15)) {
            return UNKNOWN;
        }
        if (!state.scenes.get(15).isEmpty()) {
            return FULL;
        }
        record();
        state.scenes.add(scene, new ArrayList<>());
        state.scenes.remove(16);
        return state.scenesWithCards();
    }

    int removeScene(int scene) {
        if (no(scene, 0, 15)) {
            return UNKNOWN;
        }
        if (!state.scenes.get(scene).isEmpty()) {
            return NOT_POSSIBLE;
        }
        if (state.scenes.subList(scene, 16).stream().allMatch(List::isEmpty)) {
            return NONE;
        }
        record();
        state.scenes.remove(scene);
        state.scenes.add(new ArrayList<>());
        return state.scenesWithCards();
    }

    int swapScenes(int one, int other) {
        if (no(one, 0, 15) || no(other, 0, 15)) {
            return UNKNOWN;
        }
        if (one == other) {
            return BAD_VALUE;
        }
        if (state.scenes.get(one).isEmpty() && state.scenes.get(other).isEmpty()) {
            return NONE;
        }
        record();
        java.util.Collections.swap(state.scenes, one, other);
        return state.breaks().size();
    }

    int set(int which, int value) {
        int[] least = {0, 1, 0};
        int[] most = {14, 9999, 1000};
        if (no(which, 0, 2) || no(value, least[which], most[which])) {
            return BAD_VALUE;
        }
        int previous = state.settings[which];
        if (previous == value) {
            return NONE;
        }
        record();
        state.settings[which] = value;
        return previous;
    }

    int type(char character) {
        if (text.length() == 60) {
            return FULL;
        }
        text += character;
        return text.length();
    }

    int clearText() {
        int length = text.length();
        text = "";
        return length;
    }

    int undo() {
        if (history.isEmpty()) {
            return NONE;
        }
        state = history.removeLast();
        return history.size();
    }

    int keep() {
        snapshot = state.copy();
        return state.read().size();
    }

    int restore() {
        if (snapshot == null) {
            return NONE;
        }
        record();
        state = snapshot.copy();
        return state.read().size();
    }

    int card(int card, int what) {
        if (noCard(card)) {
            return UNKNOWN;
        }
        Card c = state.cards.get(card);
        boolean pinned = state.sceneOf(card) != NONE;
        List<Card> row = state.row(c.thread);
        switch (what) {
            case 0: return c.thread;
            case 1: return c.hour;
            case 2: return c.words;
            case 3: return c.tension;
            case 4: return c.flashback ? 1 : 0;
            case 5: return state.sceneOf(card);
            case 6: return state.placeOf(card);
            case 7: return state.breaks().contains(card) ? 1 : 0;
            case 8: return pinned ? state.read().indexOf(c) : NONE;
            case 9: return row.indexOf(c) > 0 ? row.get(row.indexOf(c) - 1).name : NONE;
            default: return BAD_VALUE;
        }
    }

    int at(int scene, int place) {
        if (no(scene, 0, 15)) {
            return UNKNOWN;
        }
        if (place < 0) {
            return BAD_VALUE;
        }
        return place < state.scenes.get(scene).size() ? state.scenes.get(scene).get(place) : NONE;
    }

    private int fewestMoves(int thread) {
        List<Integer> ends = new ArrayList<>();
        List<Card> row = state.straight(thread);
        for (Card c : row) {
            int i = 0;
            while (i < ends.size() && ends.get(i) <= c.hour) {
                i++;
            }
            if (i == ends.size()) {
                ends.add(c.hour);
            } else {
                ends.set(i, c.hour);
            }
        }
        return row.size() - ends.size();
    }

    private int threadHoles(int thread) {
        List<Card> row = state.row(thread);
        int holes = 0;
        for (int i = 1; i < row.size(); i++) {
            int between = 0;
            for (int s = state.sceneOf(row.get(i - 1).name) + 1; s < state.sceneOf(row.get(i).name); s++) {
                between++;
            }
            holes += between > state.settings[0] ? 1 : 0;
        }
        return holes;
    }

    private int timeHoles(int thread) {
        List<Card> row = state.straight(thread);
        int holes = 0;
        for (int i = 1; i < row.size(); i++) {
            holes += row.get(i).hour > row.get(i - 1).hour + state.settings[1] ? 1 : 0;
        }
        return holes;
    }

    int thread(int thread, int what) {
        if (no(thread, 0, 5)) {
            return UNKNOWN;
        }
        switch (what) {
            case 0: return state.row(thread).size();
            case 1: return (int) state.cards.stream()
                    .filter(c -> c.thread == thread && state.sceneOf(c.name) == NONE).count();
            case 2: return state.straight(thread).size();
            case 3: return state.breaks(thread).size();
            case 4: return fewestMoves(thread);
            case 5: return threadHoles(thread);
            case 6: return timeHoles(thread);
            case 7: return state.row(thread).stream().mapToInt(c -> c.words).sum();
            default: return BAD_VALUE;
        }
    }

    private boolean isHole(int scene) {
        return state.scenes.get(scene).isEmpty()
                && state.scenes.subList(0, scene).stream().anyMatch(s -> !s.isEmpty())
                && state.scenes.subList(scene, 16).stream().anyMatch(s -> !s.isEmpty());
    }

    private boolean rises(int scene) {
        if (state.scenes.get(scene).isEmpty()) {
            return false;
        }
        for (int before = scene - 1; before >= 0; before--) {
            if (!state.scenes.get(before).isEmpty()) {
                return tension(scene) - tension(before) >= (float) state.settings[2] / 100.0f;
            }
        }
        return false;
    }

    private int climb(int scene) {
        if (state.scenes.get(scene).isEmpty()) {
            return 0;
        }
        int climb = 1;
        for (int s = scene; s >= 0; s--) {
            if (!state.scenes.get(s).isEmpty()) {
                if (!rises(s)) {
                    return climb;
                }
                climb++;
            }
        }
        return climb;
    }

    int scene(int scene, int what) {
        if (no(scene, 0, 15)) {
            return UNKNOWN;
        }
        List<Integer> row = state.scenes.get(scene);
        switch (what) {
            case 0: return row.size();
            case 1: return row.stream().mapToInt(c -> state.cards.get(c).words).sum();
            case 2: return row.stream().mapToInt(c -> 1 << state.cards.get(c).thread).reduce(0, (a, b) -> a | b);
            case 3: return isHole(scene) ? 1 : 0;
            case 4: return rises(scene) ? 1 : 0;
            case 5: return (int) row.stream().filter(c -> state.breaks().contains(c)).count();
            case 6: return climb(scene);
            default: return BAD_VALUE;
        }
    }

    float tension(int scene) {
        if (no(scene, 0, 15) || state.scenes.get(scene).isEmpty()) {
            return -1.0f;
        }
        float sum = 0.0f;
        int words = 0;
        for (int name : state.scenes.get(scene)) {
            Card c = state.cards.get(name);
            sum += (float) c.tension * (float) c.words;
            words += c.words;
        }
        return sum / (float) words;
    }

    int broken(int rank) {
        if (rank < 0) {
            return BAD_VALUE;
        }
        List<Card> broken = state.read();
        broken.removeIf(c -> !state.breaks().contains(c.name));
        return rank < broken.size() ? broken.get(rank).name : NONE;
    }

    int would(int card, int scene, int place) {
        int error = pinError(card, scene, place);
        if (error != 0) {
            return error;
        }
        State then = state.copy();
        then.place(card, scene, place);
        return then.breaks().size();
    }

    int best(int card) {
        if (noCard(card)) {
            return UNKNOWN;
        }
        int best = NONE;
        int fewest = Integer.MAX_VALUE;
        for (int scene = 0; scene < 16; scene++) {
            for (int place = 0; place < 6; place++) {
                int breaks = would(card, scene, place);
                if (breaks >= 0 && breaks < fewest) {
                    best = 10 * scene + place;
                    fewest = breaks;
                }
            }
        }
        return best;
    }

    int count(int what) {
        int sum = 0;
        switch (what) {
            case 0: return state.cards.size();
            case 1: return state.read().size();
            case 2: return state.scenesWithCards();
            case 3: return state.breaks().size();
            case 4:
                for (int thread = 0; thread < 6; thread++) {
                    sum += threadHoles(thread);
                }
                return sum;
            case 5:
                for (int thread = 0; thread < 6; thread++) {
                    sum += timeHoles(thread);
                }
                return sum;
            case 6:
                for (int scene = 0; scene < 16; scene++) {
                    sum += isHole(scene) ? 1 : 0;
                }
                return sum;
            case 7: return state.read().stream().mapToInt(c -> c.words).sum();
            case 8:
                for (int scene = 0; scene < 16; scene++) {
                    sum = Math.max(sum, climb(scene));
                }
                return sum;
            case 9:
                for (int thread = 0; thread < 6; thread++) {
                    sum += state.breaks(thread).isEmpty() ? 1 : 0;
                }
                return sum;
            case 10:
            case 11:
            case 12: return state.settings[what - 10];
            case 13: return history.size();
            case 14: return text.length();
            default: return BAD_VALUE;
        }
    }

    int spanBits() {
        float least = Float.MAX_VALUE;
        float greatest = -1.0f;
        for (int scene = 0; scene < 16; scene++) {
            if (!state.scenes.get(scene).isEmpty()) {
                least = Math.min(least, tension(scene));
                greatest = Math.max(greatest, tension(scene));
            }
        }
        return greatest < 0 ? 0 : Float.floatToIntBits(greatest - least);
    }
}
