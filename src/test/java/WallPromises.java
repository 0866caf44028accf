/** Promises 5 to 12, sentence by sentence. */
final class WallPromises {
    private static final int UNKNOWN = StoryWall.UNKNOWN;
    private static final int BAD_VALUE = StoryWall.BAD_VALUE;
    private static final int FULL = StoryWall.FULL;
    private static final int NOT_POSSIBLE = StoryWall.NOT_POSSIBLE;
    private static final int NONE = StoryWall.NONE;

    private WallPromises() {
    }

    static void all() {
        pins();
        pinMovesOn();
        pinTakesOffFirst();
        pinCard();
        pinScene();
        pinPlace();
        pinBreaks();
        pinUnknown();
        pinFull();
        pinBadValue();
        pinNone();
        unpins();
        unpinCard();
        unpinBreaks();
        unpinUnknown();
        unpinNone();
        swaps();
        swapCards();
        swapBreaks();
        swapUnknown();
        swapBadValue();
        swapNotPossible();
        straightens();
        straightensOneByOne();
        straightenThread();
        straightenMoved();
        straightenUnknown();
        straightenNone();
        insertsScene();
        insertsAtEachScene();
        insertSceneScene();
        insertSceneCounts();
        insertSceneUnknown();
        insertSceneFull();
        removesScene();
        removesEachScene();
        removeSceneScene();
        removeSceneCounts();
        removeSceneUnknown();
        removeSceneNotPossible();
        removeSceneNone();
        swapsScenes();
        swapScenesScenes();
        swapScenesBreaks();
        swapScenesUnknown();
        swapScenesBadValue();
        swapScenesNone();
        sets();
        setRanges();
        setPrevious();
        setBadValue();
        setNone();
    }

    /** Six cards in a scene, and more in the box. */
    private static StoryWall fullScene(int scene, int more) {
        StoryWall wall = Walls.boxed(6 + more);
        for (int place = 0; place < 6; place++) {
            wall.pin(place, scene, place);
        }
        return wall;
    }

    private static void pins() {
        Due.sentence("Promise 5", "Pins a card at a place of a scene; those from this place on move on by one.");
        StoryWall wall = Walls.boxed(1);
        Due.is("the first slot", wall.pin(0, 0, 0), 0);
        Due.is("card(0, 5)", wall.card(0, 5), 0);
        Due.is("card(0, 6)", wall.card(0, 6), 0);
        StoryWall last = Walls.boxed(6);
        for (int card = 0; card < 6; card++) {
            last.pin(card, 15, card);
        }
        Due.is("card(5, 5) in the last slot", last.card(5, 5), 15);
        Due.is("card(5, 6) in the last slot", last.card(5, 6), 5);
    }

    private static void pinMovesOn() {
        Due.sentence("Promise 5", "those from this place on move on by one.");
        int[][] due = {{5, 0, 1, 2, 3, 4}, {0, 5, 1, 2, 3, 4}, {0, 1, 2, 3, 5, 4}, {0, 1, 2, 3, 4, 5}};
        int[] places = {0, 1, 4, 5};
        for (int index = 0; index < places.length; index++) {
            StoryWall wall = Walls.inScene(7, 1, 1, 1, 1, 1);
            wall.add(0, 1, 1, 0);
            Walls.put(wall, 6, 0, 1, 1, 0);
            Walls.put(wall, 8, 0, 1, 1, 0);
            wall.pin(5, 7, places[index]);
            Walls.row("pin() at place " + places[index], wall, 7, due[index]);
            Walls.row("the scene ahead", wall, 6, 6);
            Walls.row("the scene behind", wall, 8, 7);
        }
    }

    private static void pinTakesOffFirst() {
        Due.sentence("Promise 5", "If it is on the wall, it is taken off first (the place is one of the row that is "
                + "left then). This is an act.");
        int[][] due = {{1, 2, 0, 3, 4, 5}, {1, 2, 3, 4, 5, 0}, {5, 0, 1, 2, 3, 4}, {0, 1, 5, 2, 3, 4}};
        int[][] calls = {{0, 2}, {0, 5}, {5, 0}, {5, 2}};
        for (int index = 0; index < calls.length; index++) {
            StoryWall wall = fullScene(9, 0);
            wall.pin(calls[index][0], 9, calls[index][1]);
            Walls.row("pin(" + calls[index][0] + ", 9, " + calls[index][1] + ")", wall, 9, due[index]);
        }
        StoryWall wall = fullScene(9, 0);
        wall.pin(0, 10, 0);
        Walls.row("left", wall, 9, 1, 2, 3, 4, 5);
        Walls.row("come", wall, 10, 0);
        wall.pin(5, 10, 0);
        Walls.row("left without its last", wall, 9, 1, 2, 3, 4);
        Walls.row("come ahead", wall, 10, 5, 0);
        wall.undo();
        Walls.row("undone", wall, 10, 0);
    }

    private static void pinCard() {
        Due.sentence("Promise 5", "`card`: a card");
        Due.range("pin() of card", card -> Walls.full().pin(card, 15, 0), 0, 39, 0, UNKNOWN);
    }

    private static void pinScene() {
        Due.sentence("Promise 5", "`scene`: 0 to 15");
        Due.range("pin() in scene", scene -> Walls.boxed(1).pin(0, scene, 0), 0, 15, 0, UNKNOWN);
    }

    private static void pinPlace() {
        Due.sentence("Promise 5", "`place`: 0 to the cards that the scene has (without this card)");
        for (int cards = 0; cards <= 5; cards++) {
            int others = cards;
            Due.range("pin() beside " + cards, place -> {
                StoryWall wall = Walls.boxed(6);
                for (int card = 0; card < others; card++) {
                    wall.pin(card, 3, card);
                }
                return wall.pin(5, 3, place);
            }, 0, cards, 0, BAD_VALUE);
        }
        Due.range("pin() of a card of the scene", place -> {
            StoryWall wall = fullScene(3, 0);
            return wall.pin(2, 3, place);
        }, 0, 5, 0, BAD_VALUE);
        Due.is("the only card of the scene, behind itself", Walls.pinned(1).pin(0, 0, 1), BAD_VALUE);
    }

    private static void pinBreaks() {
        Due.sentence("Promise 5", "Returns how many breaks the thread of the card has then;");
        StoryWall wall = Walls.pinned(30, 20, 10);
        Walls.put(wall, 0, 1, 5, 1, 0);
        Walls.put(wall, 1, 1, 4, 1, 0);
        wall.add(0, 0, 1, 0);
        wall.add(2, 0, 1, 0);
        Due.is("of two threads", wall.pin(5, 15, 0), 3);
        Due.is("the other thread", wall.pin(4, 2, 0), 1);
        Due.is("a thread without a break", wall.pin(6, 2, 0), 0);
        Due.is("ahead of all", wall.pin(5, 0, 0), 2);
    }

    private static void pinUnknown() {
        Due.sentence("Promise 5", "UNKNOWN (card or scene);");
        Due.is("of an empty box", new StoryWall().pin(0, 0, 0), UNKNOWN);
        Due.is("card", Walls.boxed(2).pin(2, 0, 0), UNKNOWN);
        Due.is("scene", Walls.boxed(2).pin(0, 16, 0), UNKNOWN);
        Due.is("both", Walls.boxed(2).pin(-1, -1, 0), UNKNOWN);
        Due.is("card, ahead of FULL", fullScene(0, 0).pin(6, 0, 0), UNKNOWN);
        Due.is("card, ahead of BAD_VALUE", Walls.boxed(2).pin(2, 0, -1), UNKNOWN);
        Due.is("scene, ahead of BAD_VALUE", Walls.boxed(2).pin(0, -1, -1), UNKNOWN);
        Due.is("a slot of the next scene", Walls.pinned(1).pin(0, 16, -6), UNKNOWN);
    }

    private static void pinFull() {
        Due.sentence("Promise 5", "FULL if the scene has 6 (without this card);");
        Due.is("six others", fullScene(15, 1).pin(6, 15, 0), FULL);
        StoryWall wall = fullScene(15, 1);
        wall.pin(6, 14, 0);
        Due.is("a card of another scene", wall.pin(6, 15, 5), FULL);
        Due.is("one of the six", wall.pin(0, 15, 5), 0);
        Due.is("ahead of BAD_VALUE, place below", wall.pin(6, 15, -1), FULL);
        Due.is("ahead of BAD_VALUE, place beyond", wall.pin(6, 15, 7), FULL);
        wall.unpin(3);
        Due.is("five others", wall.pin(6, 15, 5), 0);
    }

    private static void pinBadValue() {
        Due.sentence("Promise 5", "BAD_VALUE (place);");
        Due.is("below", Walls.boxed(1).pin(0, 0, -1), BAD_VALUE);
        Due.is("beyond an empty scene", Walls.boxed(1).pin(0, 0, 1), BAD_VALUE);
        Due.is("beyond five others", fullScene(0, 0).pin(0, 0, 6), BAD_VALUE);
        Due.is("below five others", fullScene(0, 0).pin(0, 0, -1), BAD_VALUE);
    }

    private static void pinNone() {
        Due.sentence("Promise 5", "NONE if it is there already.");
        StoryWall wall = fullScene(15, 1);
        for (int place = 0; place < 6; place++) {
            Due.is("pin() at its place " + place, wall.pin(place, 15, place), NONE);
        }
        Due.is("the same place of another scene", wall.pin(0, 14, 0), 0);
        Due.is("at its place, in the other scene", wall.pin(0, 14, 0), NONE);
    }

    private static void unpins() {
        Due.sentence("Promise 6", "Takes a card off the wall, into the box. This is an act.");
        for (int card = 0; card < 6; card++) {
            StoryWall wall = fullScene(15, 0);
            wall.unpin(card);
            Due.is("card(" + card + ", 5)", wall.card(card, 5), NONE);
            Due.is("cards of the scene", wall.scene(15, 0), 5);
            for (int place = 0; place < 5; place++) {
                Due.is("at(15, " + place + ")", wall.at(15, place), place < card ? place : place + 1);
            }
            Due.is("at(15, 5)", wall.at(15, 5), NONE);
            Due.is("undo()", wall.undo(), 3);
            Due.is("place undone", wall.card(card, 6), card);
        }
        StoryWall wall = Walls.pinned(1);
        wall.unpin(0);
        Due.is("the wall is empty", wall.count(2), 0);
    }

    private static void unpinCard() {
        Due.sentence("Promise 6", "`card`: a card");
        Due.range("unpin() of card", card -> {
            StoryWall wall = Walls.full();
            wall.pin(0, 0, 0);
            wall.pin(39, 15, 0);
            return wall.unpin(card);
        }, 0, 39, 0, UNKNOWN);
    }

    private static void unpinBreaks() {
        Due.sentence("Promise 6", "Returns how many breaks the thread of the card has then;");
        StoryWall wall = Walls.pinned(30, 20, 10);
        Walls.put(wall, 0, 1, 5, 1, 0);
        Walls.put(wall, 1, 1, 4, 1, 0);
        Due.is("one of three", wall.unpin(1), 1);
        Due.is("the last break", wall.unpin(2), 0);
        Due.is("the last card", wall.unpin(0), 0);
        Due.is("of another thread", wall.unpin(3), 0);
    }

    private static void unpinUnknown() {
        Due.sentence("Promise 6", "UNKNOWN;");
        Due.is("of an empty box", new StoryWall().unpin(0), UNKNOWN);
        Due.is("the first one beyond", Walls.pinned(1).unpin(1), UNKNOWN);
        Due.is("as NONE is", Walls.pinned(1).unpin(NONE), UNKNOWN);
    }

    private static void unpinNone() {
        Due.sentence("Promise 6", "NONE if it is in the box.");
        StoryWall wall = Walls.boxed(1);
        Due.is("at first", wall.unpin(0), NONE);
        wall.pin(0, 0, 0);
        Due.is("on the wall", wall.unpin(0), 0);
        Due.is("in the box again", wall.unpin(0), NONE);
        Due.is("count(13)", wall.count(13), 3);
    }

    private static void swaps() {
        Due.sentence("Promise 7", "Exchanges two cards that are on the wall. This is an act.");
        StoryWall wall = fullScene(0, 1);
        wall.pin(6, 15, 0);
        Due.is("the ends of a scene", wall.swap(0, 5), 0);
        Walls.row("the ends of a scene", wall, 0, 5, 1, 2, 3, 4, 0);
        Due.is("with another scene", wall.swap(0, 6), 0);
        Walls.row("gone", wall, 0, 5, 1, 2, 3, 4, 6);
        Walls.row("come", wall, 15, 0);
        Due.is("undo()", wall.undo(), 3);
        Walls.row("undone", wall, 15, 6);
    }

    private static void swapCards() {
        Due.sentence("Promise 7", "`one`: a card");
        Due.range("swap() of one", card -> farCards().swap(card, 20), 0, 39, 0, UNKNOWN);
        Due.sentence("Promise 7", "`other`: another card");
        Due.range("swap() of the other", card -> farCards().swap(20, card), 0, 39, 0, UNKNOWN);
    }

    private static StoryWall farCards() {
        StoryWall wall = Walls.full();
        wall.pin(0, 0, 0);
        wall.pin(20, 7, 0);
        wall.pin(39, 15, 0);
        return wall;
    }

    private static void swapBreaks() {
        Due.sentence("Promise 7", "Returns how many breaks all threads have then;");
        StoryWall wall = Walls.pinned(30, 20, 10);
        Walls.put(wall, 0, 1, 5, 1, 0);
        Walls.put(wall, 1, 1, 4, 1, 0);
        Due.is("without those of one thread", wall.swap(0, 2), 1);
        Due.is("none", wall.swap(3, 4), 0);
        Due.is("of both threads", wall.swap(2, 3), 2);
    }

    private static void swapUnknown() {
        Due.sentence("Promise 7", "UNKNOWN (one or other);");
        Due.is("of an empty box", new StoryWall().swap(0, 1), UNKNOWN);
        Due.is("one", Walls.pinned(1, 2).swap(2, 0), UNKNOWN);
        Due.is("other", Walls.pinned(1, 2).swap(0, 2), UNKNOWN);
        Due.is("both, ahead of BAD_VALUE", Walls.pinned(1, 2).swap(2, 2), UNKNOWN);
        Due.is("both below", Walls.pinned(1, 2).swap(-1, -1), UNKNOWN);
        Due.is("other, ahead of NOT_POSSIBLE", Walls.boxed(1).swap(0, 1), UNKNOWN);
        Due.is("one, ahead of NOT_POSSIBLE", Walls.boxed(1).swap(1, 0), UNKNOWN);
    }

    private static void swapBadValue() {
        Due.sentence("Promise 7", "BAD_VALUE if both are the same;");
        Due.is("on the wall", Walls.pinned(1, 2).swap(0, 0), BAD_VALUE);
        Due.is("in the box, ahead of NOT_POSSIBLE", Walls.boxed(1).swap(0, 0), BAD_VALUE);
    }

    private static void swapNotPossible() {
        Due.sentence("Promise 7", "NOT_POSSIBLE if either is in the box.");
        StoryWall wall = Walls.boxed(3);
        Due.is("both", wall.swap(0, 1), NOT_POSSIBLE);
        wall.pin(0, 0, 0);
        Due.is("the other", wall.swap(0, 1), NOT_POSSIBLE);
        Due.is("the one", wall.swap(1, 0), NOT_POSSIBLE);
        wall.pin(1, 0, 1);
        Due.is("neither", wall.swap(1, 0), 0);
    }

    private static void straightens() {
        Due.sentence("Promise 8", "Puts a thread straight. This is an act.");
        StoryWall wall = Walls.inScene(0, 9999, 9998, 1, 0, 5, 5);
        Walls.put(wall, 15, 0, 3, 1, 0);
        Walls.put(wall, 15, 1, 0, 1, 0);
        wall.change(1, 3, 1);
        Due.is("straighten(0)", wall.straighten(0), 3);
        Walls.row("first scene", wall, 0, 3, 1, 2, 6, 4, 5);
        Walls.row("last scene", wall, 15, 0, 7);
        Due.is("undo()", wall.undo(), 3);
        Walls.row("undone", wall, 0, 0, 1, 2, 3, 4, 5);
    }

    private static void straightensOneByOne() {
        Due.sentence("Promise 8", "Puts a thread straight. This is an act.");
        StoryWall wall = new StoryWall();
        int[][] hours = {{3, 1, 2}, {1, 2, 3}, {2, 1, 3}, {7}, {}, {9, 8, 9}};
        int[] due = {3, NONE, 2, NONE, NONE, 2};
        for (int thread = 0; thread < 6; thread++) {
            for (int scene = 0; scene < hours[thread].length; scene++) {
                Walls.put(wall, scene, thread, hours[thread][scene], 1, 0);
            }
        }
        for (int thread = 0; thread < 6; thread++) {
            Due.is("straighten(" + thread + ")", wall.straighten(thread), due[thread]);
            Due.is("again", wall.straighten(thread), NONE);
            Due.is("count(9)", wall.count(9), thread < 2 ? 4 : thread < 5 ? 5 : 6);
        }
    }

    private static void straightenThread() {
        Due.sentence("Promise 8", "`thread`: 0 to 5");
        Due.range("straighten() of thread", thread -> {
            StoryWall wall = new StoryWall();
            for (int each = 0; each < 6; each++) {
                Walls.put(wall, 0, each, 1, 1, 0);
                Walls.put(wall, 1, each, 0, 1, 0);
            }
            return wall.straighten(thread);
        }, 0, 5, 2, UNKNOWN);
    }

    private static void straightenMoved() {
        Due.sentence("Promise 8", "Returns how many cards come to another place;");
        Due.is("two", Walls.pinned(2, 1).straighten(0), 2);
        Due.is("two of three", Walls.pinned(3, 2, 1).straighten(0), 2);
        Due.is("three of three", Walls.pinned(3, 1, 2).straighten(0), 3);
        Due.is("one break, all move", Walls.pinned(2, 3, 4, 5, 1).straighten(0), 5);
        StoryWall wall = Walls.pinned(9, 9, 9);
        wall.swap(0, 1);
        Due.is("the same hours by other numbers", wall.straighten(0), 2);
    }

    private static void straightenUnknown() {
        Due.sentence("Promise 8", "UNKNOWN;");
        Due.is("thread -1", new StoryWall().straighten(-1), UNKNOWN);
        Due.is("thread 6", Walls.pinned(2, 1).straighten(6), UNKNOWN);
    }

    private static void straightenNone() {
        Due.sentence("Promise 8", "NONE if none does.");
        Due.is("no card", new StoryWall().straighten(5), NONE);
        Due.is("one card", Walls.pinned(1).straighten(0), NONE);
        Due.is("rising hours", Walls.pinned(1, 2, 3).straighten(0), NONE);
        Due.is("the same hours by rising numbers", Walls.pinned(1, 1).straighten(0), NONE);
        StoryWall wall = Walls.pinned(2, 1);
        wall.change(0, 3, 1);
        Due.is("flashbacks stay", wall.straighten(0), NONE);
        StoryWall box = Walls.pinned(2, 1);
        box.unpin(1);
        Due.is("the box stays", box.straighten(0), NONE);
        Due.is("count(13)", box.count(13), 4);
    }

    private static void insertsScene() {
        Due.sentence("Promise 9", "Puts an empty scene in ahead of a scene; this one and those behind it move on by "
                + "one; the last one, which has to be empty, is gone. This is an act.");
        StoryWall wall = Walls.inScene(14, 1, 2, 3, 4, 5, 6);
        Walls.put(wall, 0, 0, 0, 1, 0);
        wall.insertScene(14);
        Walls.row("put in", wall, 14);
        Walls.row("moved on to the end", wall, 15, 0, 1, 2, 3, 4, 5);
        Walls.row("ahead", wall, 0, 6);
        Due.is("undo()", wall.undo(), 3);
        Walls.row("undone", wall, 14, 0, 1, 2, 3, 4, 5);
        StoryWall all = Walls.pinned(0, 1, 2, 3, 4, 5, 6, 7, 8, 9, 10, 11, 12, 13, 14);
        all.insertScene(0);
        Walls.row("put in ahead of all", all, 0);
        for (int scene = 1; scene < 16; scene++) {
            Walls.row("moved on", all, scene, scene - 1);
        }
        Due.sentence("Promise 9", "this one and those behind it move on by one;");
        StoryWall some = Walls.pinned(0, 1, 2);
        some.insertScene(1);
        Walls.row("ahead of it", some, 0, 0);
        Walls.row("this one", some, 2, 1);
        Walls.row("behind it", some, 3, 2);
        Due.sentence("Promise 9", "the last one, which has to be empty, is gone. This is an act.");
        StoryWall last = Walls.pinned(0);
        Due.is("ahead of the last", last.insertScene(15), 1);
        Walls.row("nothing moves", last, 0, 0);
        Due.is("an act", last.count(13), 3);
    }

    /** A wall whose scenes from one on to another have a card each; card n is in scene n. */
    private static StoryWall oneEach(int from, int to) {
        StoryWall wall = Walls.boxed(16);
        for (int scene = from; scene <= to; scene++) {
            wall.pin(scene, scene, 0);
        }
        return wall;
    }

    private static void insertsAtEachScene() {
        Due.sentence("Promise 9", "Puts an empty scene in ahead of a scene; this one and those behind it move on by one;");
        for (int scene = 0; scene < 16; scene++) {
            StoryWall wall = oneEach(0, 14);
            Due.is("insertScene(" + scene + ")", wall.insertScene(scene), 15);
            for (int card = 0; card < 15; card++) {
                int due = card < scene ? card : card + 1;
                Due.is("scene of card " + card + " after insertScene(" + scene + ")", wall.card(card, 5), due);
            }
            Due.is("the empty one", wall.scene(scene, 0), 0);
        }
    }

    private static void insertSceneScene() {
        Due.sentence("Promise 9", "`scene`: 0 to 15");
        Due.range("insertScene()", scene -> Walls.pinned(1).insertScene(scene), 0, 15, 1, UNKNOWN);
    }

    private static void insertSceneCounts() {
        Due.sentence("Promise 9", "Returns how many scenes have cards;");
        Due.is("none", new StoryWall().insertScene(0), 0);
        Due.is("one with many", Walls.inScene(0, 1, 1, 1).insertScene(0), 1);
        Due.is("fifteen", Walls.pinned(0, 1, 2, 3, 4, 5, 6, 7, 8, 9, 10, 11, 12, 13, 14).insertScene(15), 15);
    }

    private static void insertSceneUnknown() {
        Due.sentence("Promise 9", "UNKNOWN;");
        Due.is("scene 16, ahead of FULL", fullScene(15, 0).insertScene(16), UNKNOWN);
        Due.is("scene -1, ahead of FULL", fullScene(15, 0).insertScene(-1), UNKNOWN);
    }

    private static void insertSceneFull() {
        Due.sentence("Promise 9", "FULL if the last scene has cards.");
        StoryWall wall = Walls.boxed(1);
        wall.pin(0, 15, 0);
        Due.is("ahead of all", wall.insertScene(0), FULL);
        Due.is("ahead of it", wall.insertScene(15), FULL);
        wall.pin(0, 14, 0);
        Due.is("the last but one", wall.insertScene(0), 1);
        Due.is("it is the last now", wall.insertScene(0), FULL);
    }

    private static void removesScene() {
        Due.sentence("Promise 10", "Takes an empty scene out; those behind it move up by one, and an empty scene is "
                + "the last one. This is an act.");
        StoryWall wall = Walls.inScene(15, 1, 2, 3, 4, 5, 6);
        Walls.put(wall, 0, 0, 0, 1, 0);
        wall.removeScene(14);
        Walls.row("moved up", wall, 14, 0, 1, 2, 3, 4, 5);
        Walls.row("an empty one", wall, 15);
        Walls.row("ahead", wall, 0, 6);
        Due.is("undo()", wall.undo(), 3);
        Walls.row("undone", wall, 15, 0, 1, 2, 3, 4, 5);
        Due.sentence("Promise 10", "those behind it move up by one, and an empty scene is the last one.");
        StoryWall all = Walls.boxed(15);
        for (int card = 0; card < 15; card++) {
            all.pin(card, card + 1, 0);
        }
        all.removeScene(0);
        for (int scene = 0; scene < 15; scene++) {
            Walls.row("moved up", all, scene, scene);
        }
        Walls.row("an empty one", all, 15);
    }

    private static void removesEachScene() {
        Due.sentence("Promise 10", "Takes an empty scene out; those behind it move up by one, and an empty scene is the "
                + "last one.");
        for (int scene = 0; scene < 15; scene++) {
            StoryWall wall = oneEach(0, 15);
            wall.unpin(scene);
            Due.is("removeScene(" + scene + ")", wall.removeScene(scene), 15);
            for (int card = 0; card < 16; card++) {
                int due = card < scene ? card : card == scene ? NONE : card - 1;
                Due.is("scene of card " + card + " after removeScene(" + scene + ")", wall.card(card, 5), due);
            }
            Due.is("the last one", wall.scene(15, 0), 0);
        }
    }

    private static void removeSceneScene() {
        Due.sentence("Promise 10", "`scene`: 0 to 15");
        Due.range("removeScene() of an empty wall", scene -> new StoryWall().removeScene(scene), 0, 15, NONE, UNKNOWN);
        Due.is("removeScene(0)", fullScene(15, 0).removeScene(0), 1);
        Due.is("removeScene(14)", fullScene(15, 0).removeScene(14), 1);
        Due.is("removeScene(15)", fullScene(15, 0).removeScene(15), NOT_POSSIBLE);
    }

    private static void removeSceneCounts() {
        Due.sentence("Promise 10", "Returns how many scenes have cards;");
        Due.is("one with many", fullScene(15, 0).removeScene(0), 1);
        StoryWall all = Walls.boxed(15);
        for (int card = 0; card < 15; card++) {
            all.pin(card, card + 1, 0);
        }
        Due.is("fifteen", all.removeScene(0), 15);
    }

    private static void removeSceneUnknown() {
        Due.sentence("Promise 10", "UNKNOWN;");
        Due.is("of an empty wall, ahead of NONE", new StoryWall().removeScene(16), UNKNOWN);
        Due.is("scene -1, ahead of NONE", new StoryWall().removeScene(-1), UNKNOWN);
    }

    private static void removeSceneNotPossible() {
        Due.sentence("Promise 10", "NOT_POSSIBLE if it has cards;");
        Due.is("cards behind", Walls.pinned(1, 2).removeScene(0), NOT_POSSIBLE);
        Due.is("no cards behind, ahead of NONE", Walls.pinned(1, 2).removeScene(1), NOT_POSSIBLE);
        Due.is("the last scene", fullScene(15, 0).removeScene(15), NOT_POSSIBLE);
    }

    private static void removeSceneNone() {
        Due.sentence("Promise 10", "NONE if no scene behind it has cards.");
        Due.is("an empty wall", new StoryWall().removeScene(0), NONE);
        Due.is("the last scene", new StoryWall().removeScene(15), NONE);
        Due.is("just behind the cards", Walls.pinned(1).removeScene(1), NONE);
        Due.is("behind all cards", Walls.pinned(1).removeScene(15), NONE);
        StoryWall wall = fullScene(15, 0);
        Due.is("just ahead of the cards", wall.removeScene(14), 1);
        Due.is("behind them then", wall.removeScene(15), NONE);
    }

    private static void swapsScenes() {
        Due.sentence("Promise 11", "Exchanges the rows of two scenes. This is an act.");
        StoryWall wall = fullScene(0, 3);
        wall.pin(6, 15, 0);
        wall.pin(7, 15, 1);
        wall.pin(8, 7, 0);
        Due.is("the first and the last", wall.swapScenes(0, 15), 0);
        Walls.row("first", wall, 0, 6, 7);
        Walls.row("last", wall, 15, 0, 1, 2, 3, 4, 5);
        Walls.row("between", wall, 7, 8);
        Due.is("with an empty one", wall.swapScenes(14, 15), 0);
        Walls.row("filled", wall, 14, 0, 1, 2, 3, 4, 5);
        Walls.row("emptied", wall, 15);
        Due.is("undo()", wall.undo(), 3);
        Walls.row("undone", wall, 14);
    }

    private static void swapScenesScenes() {
        Due.sentence("Promise 11", "`one`: 0 to 15");
        Due.range("swapScenes() of one", scene -> Walls.inScene(7, 1).swapScenes(scene, 7), 0, 15, 0, UNKNOWN);
        Due.sentence("Promise 11", "`other`: 0 to 15");
        Due.range("swapScenes() of the other", scene -> Walls.inScene(7, 1).swapScenes(7, scene), 0, 15, 0, UNKNOWN);
    }

    private static void swapScenesBreaks() {
        Due.sentence("Promise 11", "Returns how many breaks all threads have then;");
        StoryWall wall = Walls.pinned(10, 20);
        Walls.put(wall, 0, 1, 1, 1, 0);
        Walls.put(wall, 1, 1, 2, 1, 0);
        Due.is("both break", wall.swapScenes(0, 1), 2);
        Due.is("neither does", wall.swapScenes(0, 1), 0);
    }

    private static void swapScenesUnknown() {
        Due.sentence("Promise 11", "UNKNOWN (one or other);");
        Due.is("one", Walls.pinned(1).swapScenes(16, 0), UNKNOWN);
        Due.is("other", Walls.pinned(1).swapScenes(0, 16), UNKNOWN);
        Due.is("both, ahead of BAD_VALUE", Walls.pinned(1).swapScenes(16, 16), UNKNOWN);
        Due.is("both below, ahead of BAD_VALUE", Walls.pinned(1).swapScenes(-1, -1), UNKNOWN);
        Due.is("one, ahead of NONE", new StoryWall().swapScenes(-1, 0), UNKNOWN);
        Due.is("other, ahead of NONE", new StoryWall().swapScenes(0, -1), UNKNOWN);
    }

    private static void swapScenesBadValue() {
        Due.sentence("Promise 11", "BAD_VALUE if both are the same;");
        Due.is("with cards", Walls.pinned(1).swapScenes(0, 0), BAD_VALUE);
        Due.is("empty, ahead of NONE", Walls.pinned(1).swapScenes(15, 15), BAD_VALUE);
    }

    private static void swapScenesNone() {
        Due.sentence("Promise 11", "NONE if both are empty.");
        Due.is("of an empty wall", new StoryWall().swapScenes(0, 15), NONE);
        Due.is("beside one with cards", Walls.pinned(1).swapScenes(1, 2), NONE);
        Due.is("one is not", Walls.pinned(1).swapScenes(0, 1), 0);
        Due.is("the other is not", Walls.pinned(1).swapScenes(1, 0), 0);
        Due.is("neither is, with the same hours", Walls.pinned(1, 1).swapScenes(1, 0), 0);
    }

    private static void sets() {
        Due.sentence("Promise 12", "Sets a setting. This is an act.");
        StoryWall wall = new StoryWall();
        wall.set(0, 14);
        wall.set(1, 9999);
        wall.set(2, 1000);
        int[] due = {14, 9999, 1000};
        for (int which = 0; which < 3; which++) {
            Due.is("count(" + (10 + which) + ")", wall.count(10 + which), due[which]);
        }
        Due.is("undo()", wall.undo(), 2);
        Due.is("undone", wall.count(12), 100);
        Due.is("the others stay", wall.count(11), 9999);
    }

    private static void setRanges() {
        Due.sentence("Promise 12", "`which`: 0 to 2");
        int[] first = {3, 100, 100};
        Due.range("set() of which", which -> {
            int previous = new StoryWall().set(which, 5);
            return which >= 0 && which < 3 ? previous - first[which] : previous;
        }, 0, 2, 0, BAD_VALUE);
        Due.sentence("Promise 12", "`value`: in its range");
        int[] least = {0, 1, 0};
        int[] most = {14, 9999, 1000};
        for (int which = 0; which < 3; which++) {
            int one = which;
            Due.range("set(" + which + ", ..)", value -> new StoryWall().set(one, value), least[which], most[which],
                    first[which], BAD_VALUE);
        }
    }

    private static void setPrevious() {
        Due.sentence("Promise 12", "Returns the previous one;");
        StoryWall wall = new StoryWall();
        int[][] values = {{3, 0, 14, 1, 13}, {100, 1, 9999, 2, 9998}, {100, 0, 1000, 1, 999}};
        for (int which = 0; which < 3; which++) {
            for (int index = 1; index < values[which].length; index++) {
                Due.is("set(" + which + ", " + values[which][index] + ")", wall.set(which, values[which][index]),
                        values[which][index - 1]);
            }
        }
    }

    private static void setBadValue() {
        Due.sentence("Promise 12", "BAD_VALUE (which or value);");
        Due.is("which below", new StoryWall().set(-1, 5), BAD_VALUE);
        Due.is("which beyond", new StoryWall().set(3, 5), BAD_VALUE);
        Due.is("which, of one that count() tells", new StoryWall().set(10, 5), BAD_VALUE);
        Due.is("value below", new StoryWall().set(1, 0), BAD_VALUE);
        Due.is("value beyond", new StoryWall().set(0, 15), BAD_VALUE);
        Due.is("both", new StoryWall().set(3, -1), BAD_VALUE);
    }

    private static void setNone() {
        Due.sentence("Promise 12", "NONE if it is so already.");
        StoryWall wall = new StoryWall();
        Due.is("set(0, 3)", wall.set(0, 3), NONE);
        Due.is("set(1, 100)", wall.set(1, 100), NONE);
        Due.is("set(2, 100)", wall.set(2, 100), NONE);
        wall.set(0, 0);
        Due.is("set(0, 0)", wall.set(0, 0), NONE);
        Due.is("count(13)", wall.count(13), 1);
    }
}
