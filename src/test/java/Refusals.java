import java.util.HashMap;
import java.util.Map;
import java.util.function.Supplier;
import java.util.function.ToIntFunction;

/** The term "ERRORS", sentence by sentence: what is refused answers its error, and changes nothing. */
final class Refusals {
    private static final int UNKNOWN = StoryWall.UNKNOWN;
    private static final int BAD_VALUE = StoryWall.BAD_VALUE;
    private static final int FULL = StoryWall.FULL;
    private static final int NOT_POSSIBLE = StoryWall.NOT_POSSIBLE;
    private static final int NONE = StoryWall.NONE;

    /** What walls tell on which nothing was refused, as many refusals begin with the same one. */
    private static final Map<Supplier<StoryWall>, String> UNTOUCHED = new HashMap<>();
    private static final Supplier<StoryWall> EMPTY = StoryWall::new;
    private static final Supplier<StoryWall> RICH = Walls::rich;
    /** Forty cards, a scene of six, a text of sixty characters, four states and a snapshot. */
    private static final Supplier<StoryWall> FULLEST = Refusals::fullest;

    private Refusals() {
    }

    static void all() {
        constants();
        changeNothing();
        fullChangesNothing();
        noneChangesNothing();
        orderOfChecks();
        noneIsNoError();
    }

    private static void errors(String sentence) {
        Due.sentence("ERRORS", sentence);
    }

    private static StoryWall fullest() {
        StoryWall wall = Walls.full();
        for (int place = 0; place < 6; place++) {
            wall.pin(place, 15, place);
        }
        wall.keep();
        wall.swap(0, 5);
        wall.set(2, 1000);
        Walls.write(wall, "A0,1,0;A0,1,0;A0,1,0;A0,1,0;A0,1,0;A0,1,0;A0,1,0;F9999,11,0*");
        return wall;
    }

    private static void constant(String sentence, String meaning, int constant, int due) {
        errors(sentence);
        Due.is("the constant", constant, due);
        Document.name("ERRORS", meaning);
    }

    private static void constants() {
        errors("Errors are reported by the constants below.");
        constant("The constants: `UNKNOWN = -1`:", "There is no such card, thread or scene.", UNKNOWN, -1);
        Due.is("card", new StoryWall().card(0, 0), -1);
        Due.is("thread", new StoryWall().thread(6, 0), -1);
        Due.is("scene", new StoryWall().scene(16, 0), -1);
        constant("`BAD_VALUE = -2`:", "Another argument is out of range.", BAD_VALUE, -2);
        Due.is("another argument", new StoryWall().count(15), -2);
        constant("`FULL = -3`:", "There is no more room.", FULL, -3);
        Due.is("no more room", Walls.full().add(0, 0, 1, 0), -3);
        constant("`NOT_POSSIBLE = -4`:", "This is not possible.", NOT_POSSIBLE, -4);
        Due.is("not possible", Walls.boxed(2).swap(0, 1), -4);
        constant("`NONE = -5`:", "There is no such thing; not an error.", NONE, -5);
        Due.is("no such thing", new StoryWall().undo(), -5);
    }

    /** The call answers what is due; then all is as it is on a wall on which it was not made. */
    private static void refused(String call, Supplier<StoryWall> maker, ToIntFunction<StoryWall> act, int due) {
        Due.is(call, act.applyAsInt(maker.get()), due);
        String untouched = UNTOUCHED.computeIfAbsent(maker, Told::all);
        Due.same("after " + call, Told.all(() -> {
            StoryWall wall = maker.get();
            act.applyAsInt(wall);
            return wall;
        }), untouched);
    }

    private static void changeNothing() {
        errors("A call that returns an error or NONE changes nothing.");
        refused("add() of a thread", RICH, wall -> wall.add(6, 1, 1, 1), UNKNOWN);
        refused("add() of an hour", RICH, wall -> wall.add(0, 10000, 1, 1), BAD_VALUE);
        refused("add() of words", RICH, wall -> wall.add(0, 1, 0, 1), BAD_VALUE);
        refused("add() of a tension", RICH, wall -> wall.add(0, 1, 1, 101), BAD_VALUE);
        refused("addAll() of a fault", Refusals::faulty, StoryWall::addAll, -119);
        refused("addAll() of an empty text", EMPTY, StoryWall::addAll, -100);
        refused("change() of a card", RICH, wall -> wall.change(8, 0, 1), UNKNOWN);
        refused("change() of what", RICH, wall -> wall.change(0, 4, 1), BAD_VALUE);
        refused("change() of an hour", RICH, wall -> wall.change(0, 0, 10000), BAD_VALUE);
        refused("change() of words", RICH, wall -> wall.change(0, 1, 0), BAD_VALUE);
        refused("change() of a tension", RICH, wall -> wall.change(0, 2, 101), BAD_VALUE);
        refused("change() of a flashback", RICH, wall -> wall.change(0, 3, 2), BAD_VALUE);
        refused("pin() of a card", RICH, wall -> wall.pin(8, 0, 0), UNKNOWN);
        refused("pin() in a scene", RICH, wall -> wall.pin(0, 16, 0), UNKNOWN);
        refused("pin() beyond", RICH, wall -> wall.pin(0, 5, 4), BAD_VALUE);
        refused("pin() beyond the row that is left", RICH, wall -> wall.pin(2, 5, 3), BAD_VALUE);
        refused("pin() below", RICH, wall -> wall.pin(6, 5, -1), BAD_VALUE);
        refused("unpin() of a card", RICH, wall -> wall.unpin(8), UNKNOWN);
        refused("swap() of a card", RICH, wall -> wall.swap(0, 8), UNKNOWN);
        refused("swap() of the same", RICH, wall -> wall.swap(2, 2), BAD_VALUE);
        refused("swap() with the box", RICH, wall -> wall.swap(0, 7), NOT_POSSIBLE);
        refused("swap() of the box", RICH, wall -> wall.swap(7, 0), NOT_POSSIBLE);
        refused("straighten() of a thread", RICH, wall -> wall.straighten(6), UNKNOWN);
        refused("insertScene() of a scene", RICH, wall -> wall.insertScene(16), UNKNOWN);
        refused("removeScene() of a scene", RICH, wall -> wall.removeScene(16), UNKNOWN);
        refused("removeScene() with cards", RICH, wall -> wall.removeScene(5), NOT_POSSIBLE);
        refused("swapScenes() of a scene", RICH, wall -> wall.swapScenes(2, 16), UNKNOWN);
        refused("swapScenes() of the same", RICH, wall -> wall.swapScenes(5, 5), BAD_VALUE);
        refused("set() of which", RICH, wall -> wall.set(3, 1), BAD_VALUE);
        refused("set() of a value", RICH, wall -> wall.set(0, 15), BAD_VALUE);
        refused("card() of a card", RICH, wall -> wall.card(8, 0), UNKNOWN);
        refused("card() of what", RICH, wall -> wall.card(0, 10), BAD_VALUE);
        refused("at() of a scene", RICH, wall -> wall.at(16, 0), UNKNOWN);
        refused("at() below", RICH, wall -> wall.at(0, -1), BAD_VALUE);
        refused("thread() of a thread", RICH, wall -> wall.thread(6, 0), UNKNOWN);
        refused("thread() of what", RICH, wall -> wall.thread(0, 8), BAD_VALUE);
        refused("scene() of a scene", RICH, wall -> wall.scene(16, 0), UNKNOWN);
        refused("scene() of what", RICH, wall -> wall.scene(0, 7), BAD_VALUE);
        refused("tension() of a scene", RICH, wall -> (int) wall.tension(16), -1);
        refused("broken() below", RICH, wall -> wall.broken(-1), BAD_VALUE);
        refused("would() of a card", RICH, wall -> wall.would(8, 0, 0), UNKNOWN);
        refused("would() beyond", RICH, wall -> wall.would(2, 5, 3), BAD_VALUE);
        refused("best() of a card", RICH, wall -> wall.best(8), UNKNOWN);
        refused("count() of what", RICH, wall -> wall.count(15), BAD_VALUE);
    }

    /** As rich() is, with a text that has a fault in its second card. */
    private static StoryWall faulty() {
        StoryWall wall = Walls.rich();
        Walls.write(wall, "A1,2,3;F9999,999,101*");
        return wall;
    }

    private static void fullChangesNothing() {
        errors("A call that returns an error or NONE changes nothing.");
        refused("add() of a 41st", FULLEST, wall -> wall.add(0, 0, 1, 0), FULL);
        refused("addAll() of more than 40", FULLEST, StoryWall::addAll, FULL);
        refused("addAll() of some more than 40", Refusals::nearlyFull, StoryWall::addAll, FULL);
        refused("pin() of a seventh", FULLEST, wall -> wall.pin(6, 15, 0), FULL);
        refused("insertScene() with cards in the last", FULLEST, wall -> wall.insertScene(0), FULL);
        refused("type() of a 61st", FULLEST, wall -> wall.type('?'), FULL);
        refused("would() of a seventh", FULLEST, wall -> wall.would(6, 15, 0), FULL);
    }

    private static StoryWall nearlyFull() {
        StoryWall wall = Walls.boxed(39);
        Walls.write(wall, "A1,2,3;F9999,999,100*");
        return wall;
    }

    private static void noneChangesNothing() {
        errors("A call that returns an error or NONE changes nothing.");
        refused("change() to the same", RICH, wall -> wall.change(0, 0, 50), NONE);
        refused("change() to the same flashback", RICH, wall -> wall.change(3, 3, 1), NONE);
        refused("pin() where it is", RICH, wall -> wall.pin(3, 5, 1), NONE);
        refused("pin() where it is, in a full scene", FULLEST, wall -> wall.pin(0, 15, 5), NONE);
        refused("unpin() in the box", RICH, wall -> wall.unpin(6), NONE);
        refused("straighten() of none", RICH, wall -> wall.straighten(2), NONE);
        refused("removeScene() behind all", RICH, wall -> wall.removeScene(10), NONE);
        refused("swapScenes() of empty ones", RICH, wall -> wall.swapScenes(0, 15), NONE);
        refused("set() to the same", RICH, wall -> wall.set(1, 19), NONE);
        refused("undo() of none", EMPTY, StoryWall::undo, NONE);
        refused("undo() of none any more", Refusals::undone, StoryWall::undo, NONE);
        refused("restore() of none", EMPTY, StoryWall::restore, NONE);
        refused("restore() of none, with a history", Refusals::nearlyFull, StoryWall::restore, NONE);
        refused("card() of none", RICH, wall -> wall.card(6, 5), NONE);
        refused("at() of none", RICH, wall -> wall.at(5, 3), NONE);
        refused("broken() of none", RICH, wall -> wall.broken(3), NONE);
    }

    private static StoryWall undone() {
        StoryWall wall = Walls.rich();
        for (int left = 3; left >= 0; left--) {
            wall.undo();
        }
        return wall;
    }

    private static void orderOfChecks() {
        errors("Where several errors can apply, the order of the @return line is the order of the checks.");
        StoryWall full = fullest();
        Due.is("add(): UNKNOWN, BAD_VALUE, FULL", full.add(6, -1, 0, -1), UNKNOWN);
        Due.is("add(): BAD_VALUE, FULL", full.add(5, -1, 0, -1), BAD_VALUE);
        full.clearText();
        Due.is("addAll(): fault, FULL", full.addAll(), -100);
        Due.is("change(): UNKNOWN, BAD_VALUE", full.change(40, 4, -1), UNKNOWN);
        Due.is("pin(): UNKNOWN (card), FULL, BAD_VALUE", full.pin(40, 15, 7), UNKNOWN);
        Due.is("pin(): UNKNOWN (scene), BAD_VALUE", full.pin(0, 16, 7), UNKNOWN);
        Due.is("pin(): FULL, BAD_VALUE", full.pin(6, 15, 7), FULL);
        Due.is("swap(): UNKNOWN, BAD_VALUE", full.swap(40, 40), UNKNOWN);
        Due.is("swap(): UNKNOWN, NOT_POSSIBLE", full.swap(6, 40), UNKNOWN);
        Due.is("swap(): BAD_VALUE, NOT_POSSIBLE", full.swap(6, 6), BAD_VALUE);
        Due.is("insertScene(): UNKNOWN, FULL", full.insertScene(16), UNKNOWN);
        Due.is("removeScene(): UNKNOWN, NOT_POSSIBLE", full.removeScene(16), UNKNOWN);
        Due.is("swapScenes(): UNKNOWN, BAD_VALUE", full.swapScenes(16, 16), UNKNOWN);
        Due.is("card(): UNKNOWN, BAD_VALUE", full.card(40, 10), UNKNOWN);
        Due.is("at(): UNKNOWN, BAD_VALUE", full.at(16, -1), UNKNOWN);
        Due.is("thread(): UNKNOWN, BAD_VALUE", full.thread(6, 8), UNKNOWN);
        Due.is("scene(): UNKNOWN, BAD_VALUE", full.scene(16, 7), UNKNOWN);
        Due.is("would(): UNKNOWN (card), FULL, BAD_VALUE", full.would(40, 15, 7), UNKNOWN);
        Due.is("would(): UNKNOWN (scene), BAD_VALUE", full.would(0, 16, 7), UNKNOWN);
        Due.is("would(): FULL, BAD_VALUE", full.would(6, 15, 7), FULL);
    }

    private static void noneIsNoError() {
        errors("NONE is no error; it is returned only if no error applies.");
        StoryWall wall = Walls.rich();
        Due.is("change() of an unknown card", wall.change(8, 0, 50), UNKNOWN);
        Due.is("change() of what is not", wall.change(0, 4, 0), BAD_VALUE);
        Due.is("unpin() of an unknown card", wall.unpin(8), UNKNOWN);
        Due.is("straighten() of an unknown thread", wall.straighten(-1), UNKNOWN);
        Due.is("removeScene() of an unknown scene", wall.removeScene(16), UNKNOWN);
        Due.is("removeScene() of the last with cards", wall.removeScene(9), NOT_POSSIBLE);
        Due.is("swapScenes() of the same empty one", wall.swapScenes(0, 0), BAD_VALUE);
        Due.is("swapScenes() of an unknown scene", wall.swapScenes(0, 16), UNKNOWN);
        Due.is("set() of which is not", wall.set(3, 3), BAD_VALUE);
        Due.is("card() of what is not, in the box", wall.card(6, 10), BAD_VALUE);
        Due.is("at() below, in an empty scene", wall.at(0, -1), BAD_VALUE);
        Due.is("at() of an unknown scene", wall.at(16, 0), UNKNOWN);
        Due.is("broken() below, without a break", new StoryWall().broken(-1), BAD_VALUE);
    }
}
