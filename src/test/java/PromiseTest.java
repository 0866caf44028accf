/** Each promise of the document by itself: ordinary calls, the edges that it names, and wrong arguments. */
public final class PromiseTest {
    private static final int UNKNOWN = StoryWall.UNKNOWN;
    private static final int BAD_VALUE = StoryWall.BAD_VALUE;
    private static final int FULL = StoryWall.FULL;
    private static final int NOT_POSSIBLE = StoryWall.NOT_POSSIBLE;
    private static final int NONE = StoryWall.NONE;

    private PromiseTest() {
    }

    public static void main(String[] args) {
        constants();
        newObject();
        add();
        addAll();
        faultsOfTexts();
        change();
        pin();
        pinWithinScene();
        unpin();
        swap();
        straighten();
        insertScene();
        removeScene();
        swapScenes();
        set();
        type();
        clearText();
        undo();
        recordsOfActs();
        keep();
        restore();
        card();
        at();
        thread();
        fewestMoves();
        holes();
        scene();
        climbs();
        tension();
        broken();
        would();
        best();
        count();
        spanBits();
        Due.tell("PromiseTest");
    }

    private static void constants() {
        Due.part("constants");
        Due.is("UNKNOWN", UNKNOWN, -1);
        Due.is("BAD_VALUE", BAD_VALUE, -2);
        Due.is("FULL", FULL, -3);
        Due.is("NOT_POSSIBLE", NOT_POSSIBLE, -4);
        Due.is("NONE", NONE, -5);
    }

    private static void newObject() {
        Due.part("promise 1");
        StoryWall wall = new StoryWall();
        for (int what = 0; what <= 8; what++) {
            Due.is("count(" + what + ")", wall.count(what), 0);
        }
        Due.is("count(9)", wall.count(9), 6);
        Due.is("count(10)", wall.count(10), 3);
        Due.is("count(11)", wall.count(11), 100);
        Due.is("count(12)", wall.count(12), 100);
        Due.is("count(13)", wall.count(13), 0);
        Due.is("count(14)", wall.count(14), 0);
        for (int scene = 0; scene < 16; scene++) {
            Due.is("at(" + scene + ", 0)", wall.at(scene, 0), NONE);
        }
        Due.is("card(0, 0)", wall.card(0, 0), UNKNOWN);
        Due.is("undo()", wall.undo(), NONE);
        Due.is("restore()", wall.restore(), NONE);
    }

    private static void add() {
        Due.part("promise 2");
        StoryWall wall = new StoryWall();
        Due.is("least", wall.add(0, 0, 1, 0), 0);
        Due.is("most", wall.add(5, 9999, 999, 100), 1);
        Due.is("card(1, 0)", wall.card(1, 0), 5);
        Due.is("card(1, 1)", wall.card(1, 1), 9999);
        Due.is("card(1, 2)", wall.card(1, 2), 999);
        Due.is("card(1, 3)", wall.card(1, 3), 100);
        Due.is("card(1, 4)", wall.card(1, 4), 0);
        Due.is("card(1, 5)", wall.card(1, 5), NONE);
        Due.is("thread below", wall.add(-1, 0, 1, 0), UNKNOWN);
        Due.is("thread above", wall.add(6, -1, 0, -1), UNKNOWN);
        Due.is("hour below", wall.add(0, -1, 1, 0), BAD_VALUE);
        Due.is("hour above", wall.add(0, 10000, 1, 0), BAD_VALUE);
        Due.is("words below", wall.add(0, 0, 0, 0), BAD_VALUE);
        Due.is("words above", wall.add(0, 0, 1000, 0), BAD_VALUE);
        Due.is("tension below", wall.add(0, 0, 1, -1), BAD_VALUE);
        Due.is("tension above", wall.add(0, 0, 1, 101), BAD_VALUE);
        Due.is("count(0)", wall.count(0), 2);
        Due.is("count(13)", wall.count(13), 2);
        StoryWall full = Walls.full();
        Due.is("last", full.card(39, 2), 1);
        Due.is("one too many", full.add(0, 0, 1, 0), FULL);
        Due.is("one too many, bad value", full.add(0, 0, 1, 101), BAD_VALUE);
        Due.is("one too many, unknown thread", full.add(6, 0, 1, 0), UNKNOWN);
        Due.is("count(0) of full", full.count(0), 40);
        full.undo();
        Due.is("room after undo()", full.add(1, 2, 3, 4), 39);
    }

    private static void addAll() {
        Due.part("promise 3");
        StoryWall wall = Walls.typed("A0,1,0;F9999,999,100*;B12,34,56");
        Due.is("addAll()", wall.addAll(), 3);
        int[][] cards = {{0, 0, 1, 0, 0}, {5, 9999, 999, 100, 1}, {1, 12, 34, 56, 0}};
        for (int card = 0; card < 3; card++) {
            for (int what = 0; what < 5; what++) {
                Due.is("card(" + card + ", " + what + ")", wall.card(card, what), cards[card][what]);
            }
            Due.is("card(" + card + ", 5)", wall.card(card, 5), NONE);
        }
        Due.is("text stays", wall.count(14), 31);
        Due.is("one act", wall.count(13), 1);
        Due.is("addAll() again", wall.addAll(), 3);
        Due.is("card(4, 4)", wall.card(4, 4), 1);
        Due.is("undo()", wall.undo(), 1);
        Due.is("all are gone", wall.count(0), 3);
        StoryWall nearlyFull = Walls.full();
        nearlyFull.undo();
        nearlyFull.undo();
        Walls.write(nearlyFull, "A1,1,1;A1,1,1;A1,1,1");
        Due.is("three for two", nearlyFull.addAll(), FULL);
        Due.is("none of them", nearlyFull.count(0), 38);
        Walls.write(nearlyFull, "A1,1,1;A1,1,1;A1,1,1;");
        Due.is("fault ahead of FULL", nearlyFull.addAll(), -121);
        Walls.write(nearlyFull, "A1,1,1;A1,1,1");
        Due.is("two for two", nearlyFull.addAll(), 2);
        Due.is("now full", nearlyFull.count(0), 40);
    }

    private static void fault(String text, int fault) {
        StoryWall wall = Walls.typed(text);
        Due.is("addAll() of \"" + text + "\"", wall.addAll(), -100 - fault);
        Due.is("count(0) after \"" + text + "\"", wall.count(0), 0);
        Due.is("count(13) after \"" + text + "\"", wall.count(13), 0);
        Due.is("count(14) after \"" + text + "\"", wall.count(14), text.length());
    }

    private static void fine(String text, int cards) {
        Due.is("addAll() of \"" + text + "\"", Walls.typed(text).addAll(), cards);
    }

    private static void faultsOfTexts() {
        Due.part("promise 3, faults");
        String[] early = {"", "A", "A1", "A1,", "A1,1", "A1,1,", "A1,1,1;", "A1,1,1*;", "F0,9,0;B", "A9999", "A1,999"};
        for (String text : early) {
            fault(text, text.length());
        }
        fault("G1,1,1", 0);
        fault("a1,1,1", 0);
        fault("@1,1,1", 0);
        fault(" A1,1,1", 0);
        fault("A,1,1", 1);
        fault("A00,1,1", 2);
        fault("A01,1,1", 2);
        fault("A10000,1,1", 5);
        fault("A99990", 5);
        fault("A1;1", 2);
        fault("A1,0,1", 3);
        fault("A1,01,1", 3);
        fault("A1,,1", 3);
        fault("A1,1000,1", 6);
        fault("A1,1,00", 6);
        fault("A1,1,101", 7);
        fault("A1,1,110", 7);
        fault("A1,1,1000", 8);
        fault("A1,1,*", 5);
        fault("A1,1,1**", 7);
        fault("A1,1,1*1", 7);
        fault("A1,1,1,", 6);
        fault("A1,1,1A2,2,2", 6);
        fault("A1,1,1 ", 6);
        fault("A1,1,1;;", 7);
        fault("A1,1,1;1", 7);
        fault("A-1,1,1", 1);
        fault("A\u0661,1,1", 1);
        fault("\u0141" + "1,1,1", 0);
        fault("A1\u012c1,1", 2);
        fine("A0,1,0", 1);
        fine("F9999,999,100*", 1);
        fine("A0,1,99;B10,10,10*;C100,100,100", 3);
        fine("A0,1,0;A0,1,0;A0,1,0;A0,1,0;A0,1,0;A0,1,0;A0,1,0;A0,1,0*", 8);
        fine("A1000,1,0;A1000,1,0;A1000,1,0;A1000,1,0;A1000,1,0;A1000,1,0", 6);
    }

    private static void change() {
        Due.part("promise 4");
        StoryWall wall = new StoryWall();
        wall.add(2, 30, 40, 50);
        Due.is("hour", wall.change(0, 0, 9999), 30);
        Due.is("words", wall.change(0, 1, 999), 40);
        Due.is("tension", wall.change(0, 2, 100), 50);
        Due.is("flashback", wall.change(0, 3, 1), 0);
        int[] now = {2, 9999, 999, 100, 1};
        for (int what = 0; what < 5; what++) {
            Due.is("card(0, " + what + ")", wall.card(0, what), now[what]);
        }
        Due.is("hour to 0", wall.change(0, 0, 0), 9999);
        Due.is("words to 1", wall.change(0, 1, 1), 999);
        Due.is("tension to 0", wall.change(0, 2, 0), 100);
        Due.is("no flashback", wall.change(0, 3, 0), 1);
        Due.is("so already", wall.change(0, 1, 1), NONE);
        int[][] bad = {{-1, 0}, {4, 0}, {0, -1}, {0, 10000}, {1, 0}, {1, 1000}, {2, -1}, {2, 101}, {3, -1}, {3, 2}};
        for (int[] one : bad) {
            Due.is("change(0, " + one[0] + ", " + one[1] + ")", wall.change(0, one[0], one[1]), BAD_VALUE);
            Due.is("change(1, " + one[0] + ", " + one[1] + ")", wall.change(1, one[0], one[1]), UNKNOWN);
        }
        Due.is("change(-1, 0, 0)", wall.change(-1, 0, 0), UNKNOWN);
        Due.is("undo()", wall.undo(), 3);
        Due.is("flashback again", wall.card(0, 4), 1);
    }

    private static void pin() {
        Due.part("promise 5");
        StoryWall wall = new StoryWall();
        for (int card = 0; card < 9; card++) {
            wall.add(card == 8 ? 1 : 0, 100 - 10 * card, 1, 0);
        }
        Due.is("pin(0, 15, 0)", wall.pin(0, 15, 0), 0);
        Due.is("pin(1, 15, 1)", wall.pin(1, 15, 1), 1);
        Due.is("pin(2, 15, 1)", wall.pin(2, 15, 1), 1);
        Walls.row("put in between", wall, 15, 0, 2, 1);
        Due.is("pin(3, 0, 0)", wall.pin(3, 0, 0), 1);
        Due.is("other thread", wall.pin(8, 0, 0), 0);
        Walls.row("put in front", wall, 0, 8, 3);
        Due.is("place behind the end", wall.pin(4, 15, 4), BAD_VALUE);
        Due.is("place below", wall.pin(4, 15, -1), BAD_VALUE);
        Due.is("scene below", wall.pin(4, -1, 0), UNKNOWN);
        Due.is("scene above", wall.pin(4, 16, 9), UNKNOWN);
        Due.is("card below", wall.pin(-1, 0, 0), UNKNOWN);
        Due.is("card above", wall.pin(9, 0, 9), UNKNOWN);
        Due.is("there already", wall.pin(2, 15, 1), NONE);
        wall.pin(4, 15, 3);
        wall.pin(5, 15, 4);
        wall.pin(6, 15, 5);
        Walls.row("full row", wall, 15, 0, 2, 1, 4, 5, 6);
        Due.is("no room", wall.pin(7, 15, 0), FULL);
        Due.is("no room, ahead of the place", wall.pin(7, 15, 9), FULL);
        Due.is("there already in a full row", wall.pin(6, 15, 5), NONE);
        Due.is("place 6 of a full row", wall.pin(6, 15, 6), BAD_VALUE);
        Due.is("moved in a full row", wall.pin(6, 15, 0), 4);
        Walls.row("moved to the front", wall, 15, 6, 0, 2, 1, 4, 5);
        Due.is("moved to another scene", wall.pin(1, 0, 1), 5);
        Walls.row("left", wall, 15, 6, 0, 2, 4, 5);
        Walls.row("come", wall, 0, 8, 1, 3);
    }

    private static void pinWithinScene() {
        Due.part("promise 5, in its own scene");
        StoryWall wall = new StoryWall();
        for (int card = 0; card < 4; card++) {
            Walls.put(wall, 7, 0, card, 1, 0);
        }
        Due.is("to the end", wall.pin(1, 7, 3), 1);
        Walls.row("to the end", wall, 7, 0, 2, 3, 1);
        Due.is("on by one", wall.pin(0, 7, 1), 2);
        Walls.row("on by one", wall, 7, 2, 0, 3, 1);
        Due.is("its place in the row that is left", wall.pin(0, 7, 1), NONE);
        Due.is("behind the row that is left", wall.pin(0, 7, 4), BAD_VALUE);
        Due.is("back by one", wall.pin(3, 7, 1), 1);
        Walls.row("back by one", wall, 7, 2, 3, 0, 1);
        Due.is("undo()", wall.undo(), 3);
        Walls.row("undone", wall, 7, 2, 0, 3, 1);
    }

    private static void unpin() {
        Due.part("promise 6");
        StoryWall wall = Walls.pinned(30, 20, 10);
        Walls.put(wall, 1, 1, 5, 1, 0);
        Due.is("unpin(1)", wall.unpin(1), 1);
        Walls.row("moved up", wall, 1, 3);
        Due.is("card(1, 5)", wall.card(1, 5), NONE);
        Due.is("in the box", wall.unpin(1), NONE);
        Due.is("other thread", wall.unpin(3), 0);
        Due.is("unpin(4)", wall.unpin(4), UNKNOWN);
        Due.is("unpin(-1)", wall.unpin(-1), UNKNOWN);
        Due.is("unpin(-5)", wall.unpin(NONE), UNKNOWN);
        Due.is("undo()", wall.undo(), 3);
        Due.is("card(3, 5)", wall.card(3, 5), 1);
    }

    private static void swap() {
        Due.part("promise 7");
        StoryWall wall = Walls.pinned(10, 20, 30);
        Walls.put(wall, 2, 1, 9, 1, 0);
        Walls.put(wall, 3, 1, 8, 1, 0);
        wall.add(0, 0, 1, 0);
        Due.is("breaks of all threads", wall.swap(0, 2), 3);
        Walls.row("exchanged", wall, 0, 2);
        Walls.row("exchanged", wall, 2, 0, 3);
        Due.is("in one scene", wall.swap(0, 3), 3);
        Walls.row("in one scene", wall, 2, 3, 0);
        Due.is("the same", wall.swap(1, 1), BAD_VALUE);
        Due.is("the same in the box", wall.swap(5, 5), BAD_VALUE);
        Due.is("the other in the box", wall.swap(0, 5), NOT_POSSIBLE);
        Due.is("the one in the box", wall.swap(5, 0), NOT_POSSIBLE);
        Due.is("swap(6, 6)", wall.swap(6, 6), UNKNOWN);
        Due.is("swap(0, 6)", wall.swap(0, 6), UNKNOWN);
        Due.is("swap(-1, 0)", wall.swap(-1, 0), UNKNOWN);
        Due.is("undo()", wall.undo(), 3);
        Walls.row("undone", wall, 2, 0, 3);
    }

    private static void straighten() {
        Due.part("promise 8");
        StoryWall wall = new StoryWall();
        Walls.put(wall, 1, 0, 30, 1, 0);
        Walls.put(wall, 1, 1, 1, 1, 0);
        Walls.put(wall, 1, 0, 99, 1, 0);
        Walls.put(wall, 4, 0, 20, 1, 0);
        Walls.put(wall, 4, 0, 30, 1, 0);
        Walls.put(wall, 9, 0, 10, 1, 0);
        wall.change(2, 3, 1);
        Due.is("straighten(0)", wall.straighten(0), 3);
        Walls.row("flashback and other thread stay", wall, 1, 5, 1, 2);
        Walls.row("middle", wall, 4, 3, 0);
        Walls.row("last", wall, 9, 4);
        Due.is("none moves", wall.straighten(0), NONE);
        Due.is("count(3)", wall.count(3), 0);
        wall.swap(0, 4);
        Due.is("same hour, no break", wall.thread(0, 3), 0);
        Due.is("same hour by number", wall.straighten(0), 2);
        Walls.row("same hour", wall, 9, 4);
        Due.is("undo()", wall.undo(), 3);
        Walls.row("undone", wall, 9, 0);
        Due.is("one card", wall.straighten(1), NONE);
        Due.is("no card", wall.straighten(5), NONE);
        Due.is("straighten(6)", wall.straighten(6), UNKNOWN);
        Due.is("straighten(-1)", wall.straighten(-1), UNKNOWN);
    }

    private static void insertScene() {
        Due.part("promise 9");
        StoryWall wall = Walls.pinned(1, 2, 3);
        Walls.put(wall, 1, 0, 2, 1, 0);
        wall.pin(2, 14, 0);
        Due.is("insertScene(1)", wall.insertScene(1), 3);
        Walls.row("stays", wall, 0, 0);
        Walls.row("new", wall, 1);
        Walls.row("moved on", wall, 2, 1, 3);
        Walls.row("moved to the end", wall, 15, 2);
        Due.is("no room", wall.insertScene(15), FULL);
        Due.is("no room ahead of all", wall.insertScene(0), FULL);
        Due.is("insertScene(16)", wall.insertScene(16), UNKNOWN);
        Due.is("insertScene(-1)", wall.insertScene(-1), UNKNOWN);
        Due.is("undo()", wall.undo(), 3);
        Walls.row("undone", wall, 1, 1, 3);
        StoryWall empty = new StoryWall();
        Due.is("nothing moves", empty.insertScene(15), 0);
        Due.is("an act all the same", empty.count(13), 1);
    }

    private static void removeScene() {
        Due.part("promise 10");
        StoryWall wall = Walls.pinned(1, 2, 3);
        wall.pin(2, 15, 0);
        wall.pin(1, 5, 0);
        Due.is("removeScene(1)", wall.removeScene(1), 3);
        Walls.row("stays", wall, 0, 0);
        Walls.row("moved up", wall, 4, 1);
        Walls.row("last moved up", wall, 14, 2);
        Walls.row("new last", wall, 15);
        Due.is("has cards", wall.removeScene(0), NOT_POSSIBLE);
        Due.is("last with cards", wall.removeScene(14), NOT_POSSIBLE);
        Due.is("no cards behind", wall.removeScene(15), NONE);
        Due.is("cards behind", wall.removeScene(13), 3);
        Due.is("no cards behind now", wall.removeScene(14), NONE);
        Due.is("removeScene(16)", wall.removeScene(16), UNKNOWN);
        Due.is("removeScene(-1)", wall.removeScene(-1), UNKNOWN);
        Due.is("undo()", wall.undo(), 3);
        Walls.row("undone", wall, 14, 2);
    }

    private static void swapScenes() {
        Due.part("promise 11");
        StoryWall wall = Walls.pinned(1, 2, 3);
        Walls.put(wall, 0, 1, 10, 1, 0);
        Walls.put(wall, 1, 1, 20, 1, 0);
        Due.is("breaks of all threads", wall.swapScenes(0, 1), 2);
        Walls.row("exchanged", wall, 0, 1, 4);
        Walls.row("exchanged", wall, 1, 0, 3);
        Due.is("with an empty one", wall.swapScenes(0, 15), 1);
        Walls.row("emptied", wall, 0);
        Walls.row("come", wall, 15, 1, 4);
        Due.is("both empty", wall.swapScenes(5, 6), NONE);
        Due.is("same", wall.swapScenes(1, 1), BAD_VALUE);
        Due.is("same empty one", wall.swapScenes(5, 5), BAD_VALUE);
        Due.is("unknown ahead of same", wall.swapScenes(16, 16), UNKNOWN);
        Due.is("one unknown", wall.swapScenes(-1, 0), UNKNOWN);
        Due.is("other unknown", wall.swapScenes(0, 16), UNKNOWN);
        Due.is("undo()", wall.undo(), 3);
        Walls.row("undone", wall, 0, 1, 4);
    }

    private static void set() {
        Due.part("promise 12");
        StoryWall wall = new StoryWall();
        int[] first = {3, 100, 100};
        int[] least = {0, 1, 0};
        int[] most = {14, 9999, 1000};
        for (int which = 0; which < 3; which++) {
            String call = "set(" + which + ", ..) ";
            Due.is(call + "so already", wall.set(which, first[which]), NONE);
            Due.is(call + "least", wall.set(which, least[which]), first[which]);
            Due.is(call + "most", wall.set(which, most[which]), least[which]);
            Due.is(call + "below", wall.set(which, least[which] - 1), BAD_VALUE);
            Due.is(call + "above", wall.set(which, most[which] + 1), BAD_VALUE);
            Due.is(call + "told", wall.count(10 + which), most[which]);
        }
        Due.is("set(3, 1)", wall.set(3, 1), BAD_VALUE);
        Due.is("set(-1, 1)", wall.set(-1, 1), BAD_VALUE);
        Due.is("undo()", wall.undo(), 3);
        Due.is("undone", wall.count(12), 0);
    }

    private static void type() {
        Due.part("promise 13");
        StoryWall wall = new StoryWall();
        for (int length = 1; length <= 60; length++) {
            Due.is("type()", wall.type(length % 2 == 0 ? '\uffff' : '\u0000'), length);
        }
        Due.is("one too many", wall.type('A'), FULL);
        Due.is("count(14)", wall.count(14), 60);
        Due.is("no act", wall.count(13), 0);
    }

    private static void clearText() {
        Due.part("promise 14");
        StoryWall wall = Walls.typed("A1,1,1");
        Due.is("clearText()", wall.clearText(), 6);
        Due.is("count(14)", wall.count(14), 0);
        Due.is("empty", wall.clearText(), 0);
        Due.is("addAll()", wall.addAll(), -100);
        Due.is("no act", wall.count(13), 0);
        wall.type('B');
        Due.is("typed anew", wall.addAll(), -101);
    }

    private static void undo() {
        Due.part("promise 15");
        StoryWall wall = new StoryWall();
        Due.is("empty history", wall.undo(), NONE);
        for (int card = 0; card < 6; card++) {
            wall.add(0, card, 1, 0);
        }
        wall.type('A');
        for (int left = 3; left >= 0; left--) {
            Due.is("undo()", wall.undo(), left);
            Due.is("count(0)", wall.count(0), 2 + left);
            Due.is("count(13)", wall.count(13), left);
        }
        Due.is("the oldest were dropped", wall.undo(), NONE);
        Due.is("count(0) at last", wall.count(0), 2);
        Due.is("the text is no state", wall.count(14), 1);
        Due.is("number given again", wall.add(3, 0, 1, 0), 2);
        Due.is("card(2, 0)", wall.card(2, 0), 3);
        wall.undo();
        Due.is("card(2, 0) undone", wall.card(2, 0), UNKNOWN);
    }

    /** Errors, NONE and calls that only tell leave the history as it is. */
    private static void recordsOfActs() {
        Due.part("promise 15, what is recorded");
        StoryWall wall = Walls.pinned(5);
        int[] answers = {wall.add(6, 0, 1, 0), wall.addAll(), wall.change(0, 0, 5), wall.pin(0, 0, 0), wall.unpin(7),
            wall.swap(0, 0), wall.straighten(0), wall.insertScene(16), wall.removeScene(0), wall.swapScenes(1, 2),
            wall.set(0, 3), wall.restore()};
        int[] due = {UNKNOWN, -100, NONE, NONE, UNKNOWN, BAD_VALUE, NONE, UNKNOWN, NOT_POSSIBLE, NONE, NONE, NONE};
        for (int i = 0; i < due.length; i++) {
            Due.is("answer " + i, answers[i], due[i]);
        }
        wall.type('x');
        wall.clearText();
        wall.keep();
        wall.would(0, 5, 0);
        wall.best(0);
        Due.is("count(13)", wall.count(13), 2);
        wall.swapScenes(0, 1);
        wall.restore();
        Due.is("count(13) after two acts", wall.count(13), 4);
    }

    private static void keep() {
        Due.part("promise 16");
        StoryWall wall = new StoryWall();
        wall.add(0, 1, 1, 0);
        Due.is("all in the box", wall.keep(), 0);
        Walls.put(wall, 3, 0, 2, 1, 0);
        Walls.put(wall, 3, 0, 3, 1, 0);
        Due.is("two on the wall", wall.keep(), 2);
        Due.is("no act", wall.count(13), 4);
        wall.unpin(1);
        wall.set(0, 9);
        Due.is("the newer one", wall.restore(), 2);
        Due.is("settings, too", wall.count(10), 3);
    }

    private static void restore() {
        Due.part("promise 17");
        StoryWall wall = Walls.pinned(1, 2);
        Due.is("no snapshot", wall.restore(), NONE);
        wall.keep();
        wall.add(0, 3, 1, 0);
        wall.change(0, 0, 77);
        wall.unpin(1);
        Walls.write(wall, "A1");
        Due.is("restore()", wall.restore(), 2);
        Due.is("count(0)", wall.count(0), 2);
        Due.is("card(0, 1)", wall.card(0, 1), 1);
        Due.is("card(1, 5)", wall.card(1, 5), 1);
        Due.is("the text is no state", wall.count(14), 2);
        Due.is("an act", wall.count(13), 4);
        Due.is("undo()", wall.undo(), 3);
        Due.is("as before", wall.card(0, 1), 77);
        Due.is("the snapshot stays", wall.restore(), 2);
        Due.is("even when nothing differs", wall.restore(), 2);
        Due.is("undo() of nothing", wall.undo(), 3);
        Due.is("changes do not reach it", wall.change(0, 0, 55), 1);
        wall.restore();
        Due.is("card(0, 1) again", wall.card(0, 1), 1);
    }

    private static void card() {
        Due.part("promise 18");
        StoryWall wall = new StoryWall();
        Walls.put(wall, 2, 3, 50, 70, 80);
        Walls.put(wall, 2, 1, 10, 1, 0);
        Walls.put(wall, 5, 3, 20, 2, 9);
        Walls.put(wall, 5, 3, 30, 2, 9);
        Walls.put(wall, 8, 3, 10, 2, 9);
        wall.add(3, 0, 5, 6);
        wall.change(2, 3, 1);
        int[] break3 = {3, 30, 2, 9, 0, 5, 1, 1, 3, 2};
        int[] flash2 = {3, 20, 2, 9, 1, 5, 0, 0, 2, 0};
        int[] first0 = {3, 50, 70, 80, 0, 2, 0, 0, 0, NONE};
        int[] boxed5 = {3, 0, 5, 6, 0, NONE, NONE, 0, NONE, NONE};
        for (int what = 0; what < 10; what++) {
            Due.is("card(3, " + what + ")", wall.card(3, what), break3[what]);
            Due.is("card(2, " + what + ")", wall.card(2, what), flash2[what]);
            Due.is("card(0, " + what + ")", wall.card(0, what), first0[what]);
            Due.is("card(5, " + what + ")", wall.card(5, what), boxed5[what]);
        }
        Due.is("first of its thread", wall.card(1, 9), NONE);
        Due.is("rank in a scene", wall.card(1, 8), 1);
        Due.is("card(4, 9)", wall.card(4, 9), 3);
        Due.is("card(4, 7)", wall.card(4, 7), 1);
        Due.is("card(0, 10)", wall.card(0, 10), BAD_VALUE);
        Due.is("card(0, -1)", wall.card(0, -1), BAD_VALUE);
        Due.is("card(6, 0)", wall.card(6, 0), UNKNOWN);
        Due.is("card(-1, 10)", wall.card(-1, 10), UNKNOWN);
    }

    private static void at() {
        Due.part("promise 19");
        StoryWall wall = new StoryWall();
        for (int card = 0; card < 6; card++) {
            Walls.put(wall, 15, 0, 1, 1, 0);
        }
        Walls.row("full row", wall, 15, 0, 1, 2, 3, 4, 5);
        Due.is("at(15, 6)", wall.at(15, 6), NONE);
        Due.is("at(14, 6)", wall.at(14, 6), NONE);
        Due.is("at(14, 0)", wall.at(14, 0), NONE);
        Due.is("at(15, MAX)", wall.at(15, Integer.MAX_VALUE), NONE);
        Due.is("at(15, -1)", wall.at(15, -1), BAD_VALUE);
        Due.is("at(16, -1)", wall.at(16, -1), UNKNOWN);
        Due.is("at(-1, 0)", wall.at(-1, 0), UNKNOWN);
    }

    private static void thread() {
        Due.part("promise 20");
        StoryWall wall = new StoryWall();
        Walls.put(wall, 0, 2, 300, 10, 0);
        Walls.put(wall, 6, 2, 200, 20, 0);
        Walls.put(wall, 7, 2, 50, 30, 0);
        Walls.put(wall, 15, 2, 400, 40, 0);
        wall.change(2, 3, 1);
        wall.add(2, 7, 50, 0);
        wall.add(2, 7, 60, 0);
        int[] due = {4, 2, 3, 1, 1, 2, 1, 100};
        for (int what = 0; what < 8; what++) {
            Due.is("thread(2, " + what + ")", wall.thread(2, what), due[what]);
            Due.is("thread(1, " + what + ")", wall.thread(1, what), 0);
        }
        Due.is("thread(2, 8)", wall.thread(2, 8), BAD_VALUE);
        Due.is("thread(2, -1)", wall.thread(2, -1), BAD_VALUE);
        Due.is("thread(6, 8)", wall.thread(6, 8), UNKNOWN);
        Due.is("thread(-1, 0)", wall.thread(-1, 0), UNKNOWN);
    }

    private static void moves(int want, int... hours) {
        Due.is("thread(0, 4) of " + java.util.Arrays.toString(hours), Walls.pinned(hours).thread(0, 4), want);
    }

    private static void fewestMoves() {
        Due.part("promise 20, fewest moves");
        moves(0, 1);
        moves(0, 1, 2, 3);
        moves(0, 2, 2, 2);
        moves(2, 3, 2, 1);
        moves(1, 3, 1, 2);
        moves(1, 1, 2, 0, 3);
        moves(2, 5, 6, 1, 2, 7);
        moves(3, 9, 1, 8, 2, 7, 3, 9);
        StoryWall wall = Walls.pinned(9, 1, 2);
        wall.change(0, 3, 1);
        Due.is("a flashback is not in the straight row", wall.thread(0, 4), 0);
    }

    private static void holes() {
        Due.part("promise 20, holes");
        StoryWall wall = Walls.pinned(0, 100);
        Due.is("100 hours are not more than 100", wall.thread(0, 6), 0);
        wall.change(1, 0, 101);
        Due.is("101 hours are", wall.thread(0, 6), 1);
        wall.pin(1, 4, 0);
        Due.is("3 scenes between are not more than 3", wall.thread(0, 5), 0);
        wall.pin(1, 5, 0);
        Due.is("4 scenes between are", wall.thread(0, 5), 1);
        Walls.put(wall, 3, 1, 0, 1, 0);
        Due.is("with cards or without", wall.thread(0, 5), 1);
        wall.change(1, 3, 1);
        Due.is("flashbacks are in the row", wall.thread(0, 5), 1);
        Due.is("but not in the straight row", wall.thread(0, 6), 0);
        wall.set(0, 0);
        wall.pin(1, 1, 0);
        Due.is("no scene between", wall.thread(0, 5), 0);
        wall.pin(1, 0, 1);
        Due.is("in one scene", wall.thread(0, 5), 0);
        wall.pin(1, 2, 0);
        Due.is("one scene between", wall.thread(0, 5), 1);
        StoryWall back = Walls.pinned(500, 100, 150);
        back.set(1, 49);
        Due.is("an hour that falls is no time hole", back.thread(0, 6), 1);
    }

    private static void scene() {
        Due.part("promise 21");
        StoryWall wall = new StoryWall();
        Walls.put(wall, 1, 0, 50, 10, 10);
        Walls.put(wall, 3, 5, 50, 20, 50);
        Walls.put(wall, 3, 0, 40, 30, 50);
        Walls.put(wall, 3, 0, 30, 40, 50);
        int[] due = {3, 90, 33, 0, 1, 2, 2};
        int[] hole = {0, 0, 0, 1, 0, 0, 0};
        int[] ahead = {0, 0, 0, 0, 0, 0, 0};
        for (int what = 0; what < 7; what++) {
            Due.is("scene(3, " + what + ")", wall.scene(3, what), due[what]);
            Due.is("scene(2, " + what + ")", wall.scene(2, what), hole[what]);
            Due.is("scene(0, " + what + ")", wall.scene(0, what), ahead[what]);
            Due.is("scene(4, " + what + ")", wall.scene(4, what), ahead[what]);
        }
        Due.is("scene(3, 7)", wall.scene(3, 7), BAD_VALUE);
        Due.is("scene(3, -1)", wall.scene(3, -1), BAD_VALUE);
        Due.is("scene(16, 7)", wall.scene(16, 7), UNKNOWN);
        Due.is("scene(-1, 0)", wall.scene(-1, 0), UNKNOWN);
        wall.change(0, 1, 999);
        Due.is("after a change", wall.scene(1, 1), 999);
        wall.swapScenes(0, 1);
        Due.is("threads of the first card", wall.scene(0, 2), 1);
    }

    private static void climbs() {
        Due.part("promise 21, climbs");
        StoryWall wall = new StoryWall();
        int[] tensions = {10, 11, 12, 12, 20, 30, 29, 30};
        for (int i = 0; i < tensions.length; i++) {
            Walls.put(wall, i < 4 ? i : i + 3, 0, 0, 7, tensions[i]);
        }
        int[] climbs = {1, 2, 3, 1, 0, 0, 0, 2, 3, 1, 2};
        for (int scene = 0; scene < climbs.length; scene++) {
            Due.is("scene(" + scene + ", 6)", wall.scene(scene, 6), climbs[scene]);
            Due.is("scene(" + scene + ", 4)", wall.scene(scene, 4), climbs[scene] > 1 ? 1 : 0);
        }
        Due.is("longest", wall.count(8), 3);
        wall.set(2, 101);
        Due.is("a rise of 1 is less than 1.01", wall.count(8), 3);
        Due.is("scene(1, 6)", wall.scene(1, 6), 1);
        wall.set(2, 0);
        Due.is("a rise of 0 is at least 0", wall.count(8), 6);
        Due.is("a fall is not", wall.scene(9, 6), 1);
        wall.set(2, 1000);
        Due.is("a rise of 10 is at least 10", wall.count(8), 2);
        Due.is("a rise of 8 is not", wall.scene(7, 4), 0);
    }

    private static void tension() {
        Due.part("promise 22");
        StoryWall wall = new StoryWall();
        Walls.put(wall, 4, 0, 0, 1, 1);
        Walls.put(wall, 4, 1, 0, 2, 0);
        Due.isFloat("a third", wall.tension(4), 1.0f / 3.0f);
        Walls.put(wall, 4, 2, 0, 999, 100);
        Due.isFloat("three cards", wall.tension(4), 99901.0f / 1002.0f);
        Due.isFloat("no cards", wall.tension(5), -1.0f);
        Due.isFloat("tension(16)", wall.tension(16), -1.0f);
        Due.isFloat("tension(-1)", wall.tension(-1), -1.0f);
        Walls.put(wall, 15, 0, 0, 5, 0);
        Due.isFloat("no tension", wall.tension(15), 0.0f);
        wall.change(3, 3, 1);
        wall.change(3, 2, 100);
        Due.isFloat("flashbacks count", wall.tension(15), 100.0f);
        Walls.put(wall, 0, 0, 0, 1, 7);
        Due.isFloat("one word", wall.tension(0), 7.0f);
    }

    private static void broken() {
        Due.part("promise 23");
        StoryWall wall = Walls.pinned(50, 40, 60, 10, 10);
        Walls.put(wall, 1, 1, 9, 1, 0);
        wall.add(1, 8, 1, 0);
        wall.pin(6, 2, 0);
        Due.is("broken(0)", wall.broken(0), 1);
        Due.is("of another thread", wall.broken(1), 6);
        Due.is("broken(2)", wall.broken(2), 3);
        Due.is("broken(3)", wall.broken(3), NONE);
        Due.is("broken(MAX)", wall.broken(Integer.MAX_VALUE), NONE);
        Due.is("broken(-1)", wall.broken(-1), BAD_VALUE);
        wall.change(1, 3, 1);
        Due.is("a flashback is none", wall.broken(0), 6);
    }

    private static void would() {
        Due.part("promise 24");
        StoryWall wall = Walls.pinned(10, 30, 20);
        Walls.put(wall, 5, 1, 9, 1, 0);
        Walls.put(wall, 6, 1, 8, 1, 0);
        wall.add(0, 25, 1, 0);
        Due.is("where it is", wall.would(1, 1, 0), 2);
        Due.is("behind", wall.would(1, 2, 1), 1);
        Due.is("a break more", wall.would(0, 9, 0), 3);
        Due.is("inside the break", wall.would(5, 2, 0), 3);
        Due.is("from the box to the front", wall.would(5, 0, 0), 3);
        Due.is("other thread", wall.would(4, 5, 0), 1);
        Due.is("nothing changed", wall.count(3), 2);
        Due.is("still in the box", wall.card(5, 5), NONE);
        Due.is("own place is left out", wall.would(1, 1, 1), BAD_VALUE);
        Due.is("place below", wall.would(1, 2, -1), BAD_VALUE);
        Due.is("place above", wall.would(5, 1, 2), BAD_VALUE);
        Due.is("scene below", wall.would(1, -1, 0), UNKNOWN);
        Due.is("scene above", wall.would(1, 16, 0), UNKNOWN);
        Due.is("card below", wall.would(-1, 0, 0), UNKNOWN);
        Due.is("card above", wall.would(6, 0, 9), UNKNOWN);
        wall.change(0, 3, 1);
        Due.is("a flashback makes no break", wall.would(0, 9, 0), 2);
        StoryWall one = Walls.pinned(10);
        Due.is("the only card", one.would(0, 7, 0), 0);
        one.add(0, 9, 1, 0);
        one.add(0, 10, 1, 0);
        Due.is("less, behind the only card", one.would(1, 0, 1), 1);
        Due.is("less, ahead of the only card", one.would(1, 0, 0), 0);
        Due.is("the same hour, behind", one.would(2, 0, 1), 0);
        Due.is("the same hour, ahead", one.would(2, 0, 0), 0);
        StoryWall full = new StoryWall();
        for (int card = 0; card < 6; card++) {
            Walls.put(full, 0, 0, card, 1, 0);
        }
        full.add(0, 0, 1, 0);
        Due.is("no room", full.would(6, 0, 9), FULL);
        Due.is("room without it", full.would(0, 0, 5), 1);
        Due.is("place 6", full.would(0, 0, 6), BAD_VALUE);
    }

    private static void best() {
        Due.part("promise 25");
        StoryWall wall = Walls.pinned(10, 30, 20);
        Due.is("behind the later one", wall.best(1), 21);
        Due.is("ahead of the later one", wall.best(2), 1);
        wall.add(0, 25, 1, 0);
        Due.is("from the box", wall.best(3), 1);
        wall.straighten(0);
        Due.is("where it is", wall.best(0), 0);
        Due.is("lowest scene, not where it is", wall.best(2), 1);
        wall.change(1, 3, 1);
        Due.is("a flashback is as well anywhere", wall.best(1), 0);
        Due.is("best(4)", wall.best(4), UNKNOWN);
        Due.is("best(-1)", wall.best(-1), UNKNOWN);
        Due.is("nothing changed", wall.card(3, 5), NONE);
        StoryWall full = new StoryWall();
        for (int card = 0; card < 6; card++) {
            Walls.put(full, 0, 0, 10, 1, 0);
        }
        full.add(0, 0, 1, 0);
        full.add(0, 10, 1, 0);
        Due.is("no room where it would be best", full.best(6), 10);
        Due.is("the next scene", full.best(7), 10);
        Due.is("a place of its own row", full.best(5), 0);
        full.change(5, 0, 99);
        Due.is("the last place of its own row", full.best(5), 5);
        full.pin(7, 15, 0);
        full.change(7, 0, 200);
        full.change(6, 0, 300);
        Due.is("behind all", full.best(6), 151);
    }

    private static void count() {
        Due.part("promise 26");
        StoryWall wall = new StoryWall();
        Walls.put(wall, 0, 0, 10, 1, 10);
        Walls.put(wall, 1, 0, 500, 2, 20);
        Walls.put(wall, 9, 0, 400, 3, 30);
        Walls.put(wall, 9, 4, 900, 4, 30);
        Walls.put(wall, 15, 4, 1, 5, 10);
        wall.add(4, 1, 6, 10);
        wall.set(0, 5);
        wall.set(1, 7);
        wall.set(2, 1);
        Walls.write(wall, "abc");
        int[] due = {6, 5, 4, 2, 1, 1, 12, 15, 3, 4, 5, 7, 1, 4, 3};
        for (int what = 0; what < due.length; what++) {
            Due.is("count(" + what + ")", wall.count(what), due[what]);
        }
        Due.is("count(15)", wall.count(15), BAD_VALUE);
        Due.is("count(-1)", wall.count(-1), BAD_VALUE);
        wall.set(0, 4);
        Due.is("thread holes of all threads", wall.count(4), 2);
        Due.is("a climb of the first scene alone", Walls.pinned(1).count(8), 1);
        wall.change(0, 1, 100);
        Due.is("after a change", wall.count(7), 114);
    }

    private static void spanBits() {
        Due.part("promise 27");
        StoryWall wall = new StoryWall();
        Due.is("without cards", wall.spanBits(), 0);
        Walls.put(wall, 3, 0, 0, 7, 55);
        Due.is("one scene", wall.spanBits(), 0);
        Walls.put(wall, 9, 0, 0, 3, 56);
        Due.is("1", wall.spanBits(), Float.floatToIntBits(1.0f));
        Walls.put(wall, 9, 1, 0, 4, 0);
        Due.is("less", wall.spanBits(), Float.floatToIntBits(55.0f - 24.0f));
        Walls.put(wall, 0, 2, 0, 999, 100);
        Due.is("greatest less least", wall.spanBits(), Float.floatToIntBits(100.0f - 24.0f));
        wall.change(3, 3, 1);
        wall.change(2, 1, 5);
        Due.is("fractions", wall.spanBits(), Float.floatToIntBits(100.0f - 168.0f / 8.0f));
        StoryWall near = new StoryWall();
        Walls.put(near, 0, 0, 0, 999, 0);
        Walls.put(near, 1, 0, 0, 999, 0);
        for (int i = 0; i < 4; i++) {
            Walls.put(near, 1, 0, 0, 999, 0);
        }
        Walls.put(near, 1, 0, 0, 1, 1);
        Due.is("small", near.spanBits(), Float.floatToIntBits(1.0f / 4996.0f));
    }
}
