import java.util.function.Supplier;

/** All that an object tells, as lines. Fresh objects are asked, as each is used for at most 512 calls. */
final class Told {
    /** So many cards are asked of one object. */
    private static final int CARDS_AT_ONCE = 20;

    private final StringBuilder lines = new StringBuilder();

    private Told() {
    }

    /** The state: everything but the text, the history and the snapshot. */
    static String state(Supplier<StoryWall> maker) {
        Told told = new Told();
        told.tellState("", maker);
        return told.lines.toString();
    }

    /** The state, the states of the history, that of the snapshot, and the text. */
    static String all(Supplier<StoryWall> maker) {
        Told told = new Told();
        told.tellState("", maker);
        told.tell("count(13)", maker.get().count(13));
        told.tell("count(14)", maker.get().count(14));
        for (int undone = 1; undone <= 5; undone++) {
            int times = undone;
            told.tell("undo() " + undone, undo(maker.get(), undone));
            told.tellState("after undo() " + undone + ": ", () -> {
                StoryWall wall = maker.get();
                undo(wall, times);
                return wall;
            });
        }
        told.tell("restore()", maker.get().restore());
        told.tellState("after restore(): ", () -> {
            StoryWall wall = maker.get();
            wall.restore();
            return wall;
        });
        told.tell("addAll()", maker.get().addAll());
        told.tellState("after addAll(): ", () -> {
            StoryWall wall = maker.get();
            wall.addAll();
            return wall;
        });
        return told.lines.toString();
    }

    private static int undo(StoryWall wall, int times) {
        int answer = 0;
        for (int i = 0; i < times; i++) {
            answer = wall.undo();
        }
        return answer;
    }

    private void tell(String call, int answer) {
        lines.append(call).append(" = ").append(answer).append('\n');
    }

    private void tellState(String when, Supplier<StoryWall> maker) {
        tellWall(when, maker.get());
        int cards = maker.get().count(0);
        for (int from = 0; from < cards; from += CARDS_AT_ONCE) {
            tellCards(when, maker.get(), from, Math.min(cards, from + CARDS_AT_ONCE));
        }
    }

    private void tellCards(String when, StoryWall wall, int from, int end) {
        for (int card = from; card < end; card++) {
            for (int what = 0; what <= 9; what++) {
                tell(when + "card(" + card + ", " + what + ")", wall.card(card, what));
            }
        }
    }

    private void tellWall(String when, StoryWall wall) {
        for (int what = 0; what <= 12; what++) {
            tell(when + "count(" + what + ")", wall.count(what));
        }
        for (int scene = 0; scene < 16; scene++) {
            for (int place = 0; place < 6; place++) {
                tell(when + "at(" + scene + ", " + place + ")", wall.at(scene, place));
            }
            for (int what = 0; what <= 6; what++) {
                tell(when + "scene(" + scene + ", " + what + ")", wall.scene(scene, what));
            }
            tell(when + "tension(" + scene + ")", Float.floatToIntBits(wall.tension(scene)));
        }
        for (int thread = 0; thread < 6; thread++) {
            for (int what = 0; what <= 7; what++) {
                tell(when + "thread(" + thread + ", " + what + ")", wall.thread(thread, what));
            }
        }
        tell(when + "broken(0)", wall.broken(0));
        tell(when + "spanBits()", wall.spanBits());
    }
}
