import java.util.function.ToIntFunction;

/** Promises 1 to 4, sentence by sentence. */
final class CardPromises {
    private static final int UNKNOWN = StoryWall.UNKNOWN;
    private static final int BAD_VALUE = StoryWall.BAD_VALUE;
    private static final int FULL = StoryWall.FULL;
    private static final int NONE = StoryWall.NONE;

    private CardPromises() {
    }

    static void all() {
        emptyWallAndBox();
        objectsStandApart();
        addsIntoTheBox();
        addThread();
        addHour();
        addWords();
        addTension();
        addNumber();
        addUnknown();
        addBadValue();
        addFull();
        addAllWrites();
        addAllIsOneAct();
        addAllCounts();
        addAllFault();
        addAllFull();
        changeCard();
        changeIsToldAtOnce();
        changeWhat();
        changeValue();
        changePrevious();
        changeUnknown();
        changeBadValue();
        changeNone();
    }

    private static void emptyWallAndBox() {
        Due.sentence("Promise 1", "Creates an empty wall, and an empty box.");
        StoryWall wall = new StoryWall();
        int[] counts = {0, 0, 0, 0, 0, 0, 0, 0, 0, 6, 3, 100, 100, 0, 0};
        for (int what = 0; what < counts.length; what++) {
            Due.is("count(" + what + ")", wall.count(what), counts[what]);
        }
        for (int scene = 0; scene < 16; scene++) {
            Due.is("at(" + scene + ", 0)", wall.at(scene, 0), NONE);
            Due.isFloat("tension(" + scene + ")", wall.tension(scene), -1.0f);
            for (int what = 0; what < 7; what++) {
                Due.is("scene(" + scene + ", " + what + ")", wall.scene(scene, what), 0);
            }
        }
        for (int thread = 0; thread < 6; thread++) {
            for (int what = 0; what < 8; what++) {
                Due.is("thread(" + thread + ", " + what + ")", wall.thread(thread, what), 0);
            }
            Due.is("straighten(" + thread + ")", wall.straighten(thread), NONE);
        }
        Due.is("card(0, 0)", wall.card(0, 0), UNKNOWN);
        Due.is("broken(0)", wall.broken(0), NONE);
        Due.is("would(0, 0, 0)", wall.would(0, 0, 0), UNKNOWN);
        Due.is("best(0)", wall.best(0), UNKNOWN);
        Due.is("spanBits()", wall.spanBits(), 0);
        Due.is("change(0, 0, 0)", wall.change(0, 0, 0), UNKNOWN);
        Due.is("pin(0, 0, 0)", wall.pin(0, 0, 0), UNKNOWN);
        Due.is("unpin(0)", wall.unpin(0), UNKNOWN);
        Due.is("swap(0, 1)", wall.swap(0, 1), UNKNOWN);
        Due.is("removeScene(0)", wall.removeScene(0), NONE);
        Due.is("swapScenes(0, 15)", wall.swapScenes(0, 15), NONE);
        Due.is("addAll()", wall.addAll(), -100);
        Due.is("clearText()", wall.clearText(), 0);
        Due.is("undo()", wall.undo(), NONE);
        Due.is("restore()", wall.restore(), NONE);
        Due.is("keep()", wall.keep(), 0);
        Due.is("insertScene(0)", wall.insertScene(0), 0);
        Due.is("insertScene(15)", wall.insertScene(15), 0);
    }

    private static void objectsStandApart() {
        Due.sentence("Promise 1", "Creates an empty wall, and an empty box.");
        Due.same("one made ahead of another", Told.all(() -> {
            StoryWall wall = new StoryWall();
            Walls.rich();
            return wall;
        }), Told.all(StoryWall::new));
        Due.same("one made behind another", Told.all(() -> {
            Walls.rich();
            return new StoryWall();
        }), Told.all(StoryWall::new));
    }

    private static void addsIntoTheBox() {
        Due.sentence("Promise 2", "Writes a card, into the box. This is an act.");
        StoryWall wall = Walls.pinned(1);
        Due.is("add()", wall.add(0, 2, 3, 4), 1);
        int[] due = {0, 2, 3, 4, 0, NONE, NONE, 0, NONE, NONE};
        for (int what = 0; what < due.length; what++) {
            Due.is("card(1, " + what + ")", wall.card(1, what), due[what]);
        }
        Due.is("count(1)", wall.count(1), 1);
        Due.is("count(13)", wall.count(13), 3);
    }

    private static void addThread() {
        Due.sentence("Promise 2", "`thread`: 0 to 5");
        Due.range("add() with thread", thread -> new StoryWall().add(thread, 0, 1, 0), 0, 5, 0, UNKNOWN);
    }

    private static void addHour() {
        Due.sentence("Promise 2", "`hour`: 0 to 9999");
        Due.range("add() with hour", hour -> new StoryWall().add(0, hour, 1, 0), 0, 9999, 0, BAD_VALUE);
    }

    private static void addWords() {
        Due.sentence("Promise 2", "`words`: 1 to 999");
        Due.range("add() with words", words -> new StoryWall().add(0, 0, words, 0), 1, 999, 0, BAD_VALUE);
    }

    private static void addTension() {
        Due.sentence("Promise 2", "`tension`: 0 to 100");
        Due.range("add() with tension", tension -> new StoryWall().add(0, 0, 1, tension), 0, 100, 0, BAD_VALUE);
    }

    private static void addNumber() {
        Due.sentence("Promise 2", "Returns its number;");
        StoryWall wall = new StoryWall();
        for (int card = 0; card < 40; card++) {
            Due.is("add()", wall.add(5, 9999, 999, 100), card);
        }
        wall.undo();
        Due.is("add() after undo()", wall.add(0, 0, 1, 0), 39);
    }

    private static void addUnknown() {
        Due.sentence("Promise 2", "UNKNOWN (thread);");
        Due.is("of an empty box", new StoryWall().add(6, 0, 1, 0), UNKNOWN);
        Due.is("ahead of BAD_VALUE", new StoryWall().add(-1, -1, 0, -1), UNKNOWN);
        Due.is("ahead of FULL", Walls.full().add(6, 0, 1, 0), UNKNOWN);
        Due.is("ahead of both", Walls.full().add(6, 10000, 1000, 101), UNKNOWN);
    }

    private static void addBadValue() {
        Due.sentence("Promise 2", "BAD_VALUE;");
        Due.is("hour, ahead of FULL", Walls.full().add(0, 10000, 1, 0), BAD_VALUE);
        Due.is("words, ahead of FULL", Walls.full().add(0, 0, 0, 0), BAD_VALUE);
        Due.is("tension, ahead of FULL", Walls.full().add(0, 0, 1, 101), BAD_VALUE);
        Due.is("all of them", new StoryWall().add(0, -1, 0, -1), BAD_VALUE);
    }

    private static void addFull() {
        Due.sentence("Promise 2", "FULL if there have been 40.");
        Due.is("39", Walls.boxed(39).add(0, 0, 1, 0), 39);
        Due.is("40", Walls.boxed(40).add(0, 0, 1, 0), FULL);
        StoryWall text = Walls.boxed(38);
        Walls.write(text, "A0,1,0;A0,1,0");
        text.addAll();
        Due.is("40, two of them by a text", text.add(0, 0, 1, 0), FULL);
        StoryWall pinned = Walls.full();
        pinned.pin(0, 0, 0);
        Due.is("40, one of them on the wall", pinned.add(0, 0, 1, 0), FULL);
    }

    private static void addAllWrites() {
        Due.sentence("Promise 3", "Writes the cards of the text, which stays, into the box; all of them, or none.");
        StoryWall wall = Walls.typed("A1,2,3;F9999,999,100*;C0,1,0");
        Due.is("addAll()", wall.addAll(), 3);
        int[][] due = {{0, 1, 2, 3, 0}, {5, 9999, 999, 100, 1}, {2, 0, 1, 0, 0}};
        for (int card = 0; card < 3; card++) {
            for (int what = 0; what < 5; what++) {
                Due.is("card(" + card + ", " + what + ")", wall.card(card, what), due[card][what]);
            }
            Due.is("card(" + card + ", 5)", wall.card(card, 5), NONE);
            Due.is("card(" + card + ", 6)", wall.card(card, 6), NONE);
        }
        Due.is("the text stays", wall.count(14), 28);
        Due.is("it is read once more", wall.addAll(), 3);
        Due.is("count(0)", wall.count(0), 6);
        wall.type(';');
        Due.is("a fault at its end", wall.addAll(), -129);
        Due.is("none of them", wall.count(0), 6);
        Due.is("the text with a fault stays", wall.count(14), 29);
    }

    private static void addAllIsOneAct() {
        Due.sentence("Promise 3", "This is one act.");
        StoryWall wall = Walls.typed("A0,1,0;A0,1,0;A0,1,0;A0,1,0;A0,1,0;A0,1,0;A0,1,0;A0,1,0");
        Due.is("addAll()", wall.addAll(), 8);
        Due.is("count(13)", wall.count(13), 1);
        Due.is("undo()", wall.undo(), 0);
        Due.is("count(0)", wall.count(0), 0);
    }

    private static void addAllCounts() {
        Due.sentence("Promise 3", "Returns how many the text has;");
        StringBuilder text = new StringBuilder("A0,1,0");
        for (int cards = 1; cards <= 8; cards++) {
            Due.is("addAll() of " + text, Walls.typed(text.toString()).addAll(), cards);
            text.append(";A0,1,0");
        }
        StoryWall wall = Walls.boxed(5);
        Walls.write(wall, "A0,1,0");
        Due.is("those of the text, not all", wall.addAll(), 1);
    }

    private static void addAllFault() {
        Due.sentence("Promise 3", "-100 minus the fault of the text if it has one (which is an error);");
        Due.is("fault 0", Walls.typed("").addAll(), -100);
        Due.is("fault 1", Walls.typed("AA").addAll(), -101);
        Due.is("fault 59", Walls.typed("A0,1,0;A0,1,0;A0,1,0;A0,1,0;A0,1,0;A0,1,0;A0,1,0;F9999,11,0?").addAll(), -159);
        Due.is("fault 60", Walls.typed("A0,1,0;A0,1,0;A0,1,0;A0,1,0;A0,1,0;A0,1,0;A0,1,0;F9999,11,0;").addAll(), -160);
        StoryWall full = Walls.full();
        Due.is("ahead of FULL, empty", full.addAll(), -100);
        Walls.write(full, "A0,1,0;");
        Due.is("ahead of FULL, at the end", full.addAll(), -107);
        Due.is("count(13)", full.count(13), 4);
    }

    private static void addAllFull() {
        Due.sentence("Promise 3", "FULL if there would be more than 40.");
        int[][] due = {{39, 1, 1}, {40, 1, FULL}, {38, 2, 2}, {39, 2, FULL}, {32, 8, 8}, {33, 8, FULL}};
        for (int[] one : due) {
            StoryWall wall = Walls.boxed(one[0]);
            Walls.write(wall, "A0,1,0;A0,1,0;A0,1,0;A0,1,0;A0,1,0;A0,1,0;A0,1,0;A0,1,0".substring(0, 7 * one[1] - 1));
            Due.is("addAll() of " + one[1] + " to " + one[0], wall.addAll(), one[2]);
            Due.is("cards then", wall.count(0), one[0] + Math.max(0, one[2]));
        }
    }

    private static void changeCard() {
        Due.sentence("Promise 4", "Changes a card. This is an act.");
        StoryWall wall = Walls.pinned(30, 20);
        Due.is("change()", wall.change(0, 0, 10), 30);
        Due.is("the break is gone", wall.count(3), 0);
        Due.is("the other card", wall.card(1, 1), 20);
        Due.is("undo()", wall.undo(), 3);
        Due.is("the break again", wall.count(3), 1);
        Due.sentence("Promise 4", "`card`: a card");
        StoryWall full = Walls.full();
        Due.range("change() of card", card -> full.change(card, 1, card + 2), 0, 39, 1, UNKNOWN);
    }

    /** What is asked of a wall just ahead of a change, and again just behind it. */
    private static void told(String call, ToIntFunction<StoryWall> question, int before, int after) {
        StoryWall wall = Walls.rich();
        Due.is(call + " ahead", question.applyAsInt(wall), before);
        wall.change(0, 0, 5);
        wall.change(0, 1, 20);
        wall.change(0, 2, 100);
        Due.is(call + " behind", question.applyAsInt(wall), after);
        wall.undo();
        wall.undo();
        wall.undo();
        Due.is(call + " undone", question.applyAsInt(wall), before);
    }

    private static void changeIsToldAtOnce() {
        Due.sentence("Promise 4", "Changes a card. This is an act.");
        told("card(2, 7)", wall -> wall.card(2, 7), 1, 0);
        told("thread(0, 3)", wall -> wall.thread(0, 3), 2, 1);
        told("thread(0, 4)", wall -> wall.thread(0, 4), 2, 1);
        told("thread(0, 6)", wall -> wall.thread(0, 6), 0, 1);
        told("thread(0, 7)", wall -> wall.thread(0, 7), 140, 150);
        told("scene(2, 1)", wall -> wall.scene(2, 1), 30, 40);
        told("scene(5, 5)", wall -> wall.scene(5, 5), 2, 1);
        told("scene(5, 6)", wall -> wall.scene(5, 6), 2, 1);
        told("tension(2)", wall -> Float.floatToIntBits(wall.tension(2)), Float.floatToIntBits(800.0f / 30.0f),
                Float.floatToIntBits(65.0f));
        told("broken(0)", wall -> wall.broken(0), 2, 4);
        told("would(7, 9, 0)", wall -> wall.would(7, 9, 0), 3, 2);
        told("best(7)", wall -> wall.best(7), 0, 51);
        told("count(3)", wall -> wall.count(3), 3, 2);
        told("count(8)", wall -> wall.count(8), 3, 2);
        told("spanBits()", StoryWall::spanBits, Float.floatToIntBits(70.0f - 800.0f / 30.0f),
                Float.floatToIntBits(70.0f - 6200.0f / 120.0f));
    }

    private static void changeWhat() {
        Due.sentence("Promise 4", "`what`: 0 for its hour, 1 for its words, 2 for its tension, 3 for whether it is a "
                + "flashback (1 or 0)");
        StoryWall wall = new StoryWall();
        wall.add(1, 20, 30, 40);
        int[] due = {1, 20, 30, 40, 0};
        for (int what = 0; what < 4; what++) {
            Due.is("change(0, " + what + ", 1)", wall.change(0, what, 1), due[what + 1]);
            due[what + 1] = 1;
            for (int told = 0; told < 5; told++) {
                Due.is("card(0, " + told + ")", wall.card(0, told), due[told]);
            }
        }
        Due.range("change() of what", what -> {
            StoryWall one = new StoryWall();
            one.add(1, 0, 2, 0);
            return one.change(0, what, 1);
        }, 0, 3, 0, BAD_VALUE);
    }

    private static int changed(int what, int value) {
        StoryWall wall = new StoryWall();
        wall.add(0, 7, 7, 7);
        wall.change(0, 3, value == 0 ? 1 : 0);
        int previous = wall.change(0, what, value);
        Due.is("card() then", wall.card(0, what + 1) == value ? 1 : 0, previous >= 0 ? 1 : 0);
        return previous;
    }

    private static void changeValue() {
        Due.sentence("Promise 4", "`value`: in the range of what it is");
        Due.range("hour", value -> changed(0, value), 0, 9999, 7, BAD_VALUE);
        Due.range("words", value -> changed(1, value), 1, 999, 7, BAD_VALUE);
        Due.range("tension", value -> changed(2, value), 0, 100, 7, BAD_VALUE);
        Due.is("flashback of 0", changed(3, 0), 1);
        Due.is("flashback of 1", changed(3, 1), 0);
        for (int value : new int[] {-1, 2, Integer.MIN_VALUE, Integer.MAX_VALUE}) {
            Due.is("flashback of " + value, changed(3, value), BAD_VALUE);
        }
    }

    private static void changePrevious() {
        Due.sentence("Promise 4", "Returns the previous number;");
        StoryWall wall = new StoryWall();
        wall.add(5, 0, 1, 0);
        int[][] values = {{0, 9999, 1, 9998, 0}, {1, 999, 2, 998, 1}, {0, 100, 1, 99, 0}, {0, 1, 0, 1, 0}};
        for (int what = 0; what < 4; what++) {
            for (int index = 1; index < values[what].length; index++) {
                Due.is("change(0, " + what + ", " + values[what][index] + ")",
                        wall.change(0, what, values[what][index]), values[what][index - 1]);
            }
        }
    }

    private static void changeUnknown() {
        Due.sentence("Promise 4", "UNKNOWN;");
        Due.is("of an empty box", new StoryWall().change(0, 0, 0), UNKNOWN);
        Due.is("card -1", Walls.boxed(1).change(-1, 0, 5), UNKNOWN);
        Due.is("the first one beyond", Walls.boxed(1).change(1, 0, 5), UNKNOWN);
        Due.is("ahead of BAD_VALUE (what)", Walls.boxed(1).change(1, 4, 0), UNKNOWN);
        Due.is("ahead of BAD_VALUE (value)", Walls.boxed(1).change(1, 3, 2), UNKNOWN);
        StoryWall undone = Walls.boxed(1);
        undone.undo();
        Due.is("a card that was undone", undone.change(0, 0, 5), UNKNOWN);
    }

    private static void changeBadValue() {
        Due.sentence("Promise 4", "BAD_VALUE (what or value);");
        Due.is("what", Walls.boxed(1).change(0, 4, 0), BAD_VALUE);
        Due.is("value", Walls.boxed(1).change(0, 0, 10000), BAD_VALUE);
        Due.is("both", Walls.boxed(1).change(0, -1, -1), BAD_VALUE);
    }

    private static void changeNone() {
        Due.sentence("Promise 4", "NONE if it is so already.");
        StoryWall wall = new StoryWall();
        wall.add(0, 9999, 999, 100);
        int[] numbers = {9999, 999, 100, 0};
        for (int what = 0; what < 4; what++) {
            Due.is("change(0, " + what + ", " + numbers[what] + ")", wall.change(0, what, numbers[what]), NONE);
        }
        wall.change(0, 3, 1);
        Due.is("a flashback already", wall.change(0, 3, 1), NONE);
        Due.is("count(13)", wall.count(13), 2);
    }
}
