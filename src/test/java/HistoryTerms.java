import java.util.function.Supplier;
import java.util.function.ToIntFunction;

/** The term "HISTORY", sentence by sentence. */
final class HistoryTerms {
    private static final int NONE = StoryWall.NONE;

    private HistoryTerms() {
    }

    static void all() {
        atMost4States();
        manyActs();
        latestOne();
        actsRecord();
        othersDoNotRecord();
        oneSnapshot();
        stateIsEverythingBut();
    }

    private static void history(String sentence) {
        Due.sentence("HISTORY", sentence);
    }

    private static void atMost4States() {
        history("A history of at most 4 states is kept; when one more is recorded, the oldest one is dropped");
        for (int acts = 0; acts <= 6; acts++) {
            StoryWall wall = Walls.boxed(acts);
            int kept = Math.min(acts, 4);
            Due.is("states after " + acts + " acts", wall.count(13), kept);
            for (int left = kept - 1; left >= 0; left--) {
                Due.is("undo() after " + acts + " acts", wall.undo(), left);
                Due.is("cards then", wall.count(0), acts - kept + left);
            }
            Due.is("undo() of none after " + acts + " acts", wall.undo(), NONE);
            Due.is("cards at last", wall.count(0), acts - kept);
        }
    }

    private static void manyActs() {
        Due.sentence("What it is", "An object is used for at most 512 calls after it has been made");
        StoryWall wall = new StoryWall();
        wall.add(0, 0, 1, 0);
        for (int act = 1; act <= 500; act++) {
            Due.is("change() " + act, wall.change(0, 0, act), act - 1);
        }
        for (int left = 3; left >= 0; left--) {
            Due.is("undo()", wall.undo(), left);
            Due.is("hour then", wall.card(0, 1), 496 + left);
        }
        Due.is("undo() of none", wall.undo(), NONE);
        Due.is("the 511th call", wall.count(13), 0);
        Due.is("the 512th call", wall.change(0, 0, 9999), 496);
    }

    private static void latestOne() {
        history("undo() removes and restores the latest one.");
        StoryWall wall = new StoryWall();
        wall.set(1, 1);
        wall.set(1, 2);
        wall.set(1, 3);
        Due.is("undo()", wall.undo(), 2);
        Due.is("count(11)", wall.count(11), 2);
        wall.set(1, 4);
        wall.set(1, 5);
        wall.set(1, 6);
        int[] due = {5, 4, 2, 1};
        for (int index = 0; index < due.length; index++) {
            Due.is("undo()", wall.undo(), 3 - index);
            Due.is("count(11)", wall.count(11), due[index]);
        }
        Due.is("the first one was dropped", wall.undo(), NONE);
        Due.is("count(11) at last", wall.count(11), 1);
    }

    /** An act answers what is due, records one state, and undo() brings back all that was. */
    private static void act(String call, Supplier<StoryWall> maker, ToIntFunction<StoryWall> act, int due) {
        StoryWall wall = maker.get();
        int states = wall.count(13);
        Due.is(call, act.applyAsInt(wall), due);
        Due.is("states after " + call, wall.count(13), Math.min(4, states + 1));
        Due.same("undo() of " + call, Told.state(() -> {
            StoryWall undone = maker.get();
            act.applyAsInt(undone);
            undone.undo();
            return undone;
        }), Told.state(maker));
    }

    private static void actsRecord() {
        history("Each call of a method that is described as an act, and returns no error and not NONE, records the "
                + "state that was before it.");
        act("add()", Walls::rich, wall -> wall.add(5, 1, 1, 1), 8);
        act("addAll()", Walls::rich, StoryWall::addAll, 2);
        act("change()", Walls::rich, wall -> wall.change(0, 0, 9999), 50);
        act("pin()", Walls::rich, wall -> wall.pin(0, 15, 0), 1);
        act("pin() from the box", Walls::rich, wall -> wall.pin(6, 5, 1), 0);
        act("unpin()", Walls::rich, wall -> wall.unpin(2), 1);
        act("swap()", Walls::rich, wall -> wall.swap(0, 5), 1);
        act("straighten()", Walls::rich, wall -> wall.straighten(0), 2);
        act("insertScene()", Walls::rich, wall -> wall.insertScene(3), 3);
        act("removeScene()", Walls::rich, wall -> wall.removeScene(3), 3);
        act("swapScenes()", Walls::rich, wall -> wall.swapScenes(2, 5), 1);
        act("set()", Walls::rich, wall -> wall.set(0, 0), 2);
        act("restore()", Walls::rich, StoryWall::restore, 4);
        Supplier<StoryWall> fresh = () -> Walls.typed("A1,2,3");
        act("add() of the first card", fresh, wall -> wall.add(0, 0, 1, 0), 0);
        act("addAll() of the first card", fresh, StoryWall::addAll, 1);
        act("set() at first", fresh, wall -> wall.set(2, 0), 100);
        act("insertScene() at first", fresh, wall -> wall.insertScene(15), 0);
        Supplier<StoryWall> two = () -> Walls.pinned(5, 5);
        act("swap() that breaks nothing", two, wall -> wall.swap(0, 1), 0);
        act("straighten() without a break", () -> {
            StoryWall wall = Walls.pinned(5, 5, 5);
            wall.swap(0, 2);
            return wall;
        }, wall -> wall.straighten(0), 2);
    }

    private static void othersDoNotRecord() {
        history("Each call of a method that is described as an act");
        StoryWall wall = Walls.pinned(2, 1);
        wall.undo();
        Due.is("states ahead", wall.count(13), 3);
        wall.type('A');
        wall.clearText();
        wall.keep();
        wall.card(0, 0);
        wall.at(0, 0);
        wall.thread(0, 4);
        wall.scene(0, 6);
        wall.tension(0);
        wall.broken(0);
        wall.would(1, 0, 0);
        wall.best(1);
        wall.count(9);
        wall.spanBits();
        Due.is("states then", wall.count(13), 3);
        Due.is("undo() then", wall.undo(), 2);
        Due.is("cards then", wall.count(0), 1);
    }

    private static void oneSnapshot() {
        history("There is one snapshot, empty at first.");
        StoryWall wall = new StoryWall();
        Due.is("restore() at first", wall.restore(), NONE);
        wall.add(0, 1, 1, 1);
        Due.is("restore() after an act", wall.restore(), NONE);
        Due.is("keep()", wall.keep(), 0);
        wall.change(0, 0, 2);
        wall.pin(0, 0, 0);
        Due.is("keep() again", wall.keep(), 1);
        wall.change(0, 0, 3);
        wall.unpin(0);
        Due.is("restore()", wall.restore(), 1);
        Due.is("the latter one", wall.card(0, 1), 2);
        StoryWall empty = new StoryWall();
        Due.is("keep() of an empty wall", empty.keep(), 0);
        empty.add(0, 0, 1, 0);
        Due.is("restore() of an empty wall", empty.restore(), 0);
        Due.is("no card then", empty.count(0), 0);
    }

    private static void stateIsEverythingBut() {
        history("A state is everything but the text, the history and the snapshot.");
        StoryWall wall = new StoryWall();
        wall.type('A');
        wall.keep();
        wall.add(0, 0, 1, 0);
        wall.type('1');
        Due.is("undo()", wall.undo(), 0);
        Due.is("the text after undo()", wall.count(14), 2);
        Due.is("the snapshot after undo()", wall.restore(), 0);
        Due.is("the history after restore()", wall.count(13), 1);
        Due.is("the text after restore()", wall.count(14), 2);
        wall.set(0, 9);
        wall.keep();
        wall.undo();
        Due.is("a snapshot of what was undone", wall.restore(), 0);
        Due.is("its setting", wall.count(10), 9);
        wall.clearText();
        wall.undo();
        Due.is("an empty text after undo()", wall.count(14), 0);
    }
}
