/** Promises 18 to 27, sentence by sentence. */
final class ToldPromises {
    private static final int UNKNOWN = StoryWall.UNKNOWN;
    private static final int BAD_VALUE = StoryWall.BAD_VALUE;
    private static final int FULL = StoryWall.FULL;
    private static final int NONE = StoryWall.NONE;

    private ToldPromises() {
    }

    static void all() {
        cardCard();
        cardNumbers();
        cardScene();
        cardPlace();
        cardBreak();
        cardRank();
        cardAhead();
        cardAnswers();
        atScene();
        atPlace();
        atAnswers();
        threadThread();
        threadWhat();
        threadWords();
        threadAnswers();
        sceneScene();
        sceneWhat();
        sceneThreads();
        sceneHole();
        sceneRises();
        sceneBreaks();
        sceneClimb();
        sceneAnswers();
        tensionScene();
        tensionAnswers();
        brokenTells();
        brokenRank();
        brokenAnswers();
        wouldTells();
        wouldArguments();
        wouldAnswers();
        bestTells();
        bestCard();
        bestAnswers();
        countWhat();
        countAnswers();
        spanBitsTells();
        spanBitsAnswers();
    }

    private static void cardCard() {
        Due.sentence("Promise 18", "`card`: a card");
        for (int what = 0; what < 10; what++) {
            int one = what;
            Due.is("card(0, " + what + ") of none", new StoryWall().card(0, what), UNKNOWN);
            Due.is("card(39, " + what + ")", Walls.full().card(39, what) == UNKNOWN ? 1 : 0, 0);
            for (int card : new int[] {-1, 40, Integer.MIN_VALUE, Integer.MAX_VALUE, NONE}) {
                Due.is("card(" + card + ", " + what + ")", Walls.full().card(card, one), UNKNOWN);
            }
        }
    }

    private static void cardNumbers() {
        Due.sentence("Promise 18", "`what`: 0 for its thread, 1 for its hour, 2 for its words, 3 for its tension, 4 for "
                + "whether it is a flashback (1, otherwise 0)");
        StoryWall wall = new StoryWall();
        wall.add(0, 0, 1, 0);
        wall.add(5, 9999, 999, 100);
        wall.change(1, 3, 1);
        wall.add(1, 2, 3, 4);
        int[][] due = {{0, 0, 1, 0, 0}, {5, 9999, 999, 100, 1}, {1, 2, 3, 4, 0}};
        for (int card = 0; card < 3; card++) {
            for (int what = 0; what < 5; what++) {
                Due.is("card(" + card + ", " + what + ") in the box", wall.card(card, what), due[card][what]);
            }
            wall.pin(card, card, 0);
            for (int what = 0; what < 5; what++) {
                Due.is("card(" + card + ", " + what + ") on the wall", wall.card(card, what), due[card][what]);
            }
        }
    }

    private static void cardScene() {
        Due.sentence("Promise 18", "5 for its scene (NONE in the box)");
        StoryWall wall = Walls.boxed(1);
        Due.is("in the box", wall.card(0, 5), NONE);
        for (int scene = 0; scene < 16; scene++) {
            wall.pin(0, scene, 0);
            Due.is("card(0, 5)", wall.card(0, 5), scene);
        }
        wall.unpin(0);
        Due.is("in the box again", wall.card(0, 5), NONE);
    }

    private static void cardPlace() {
        Due.sentence("Promise 18", "6 for its place in the scene (NONE in the box)");
        StoryWall wall = Walls.inScene(15, 0, 0, 0, 0, 0, 0);
        for (int place = 0; place < 6; place++) {
            Due.is("card(" + place + ", 6)", wall.card(place, 6), place);
        }
        wall.unpin(0);
        Due.is("in the box", wall.card(0, 6), NONE);
        Due.is("card(5, 6)", wall.card(5, 6), 4);
    }

    private static void cardBreak() {
        Due.sentence("Promise 18", "7 for whether it is a break (1, otherwise 0)");
        StoryWall wall = Walls.pinned(5, 4, 4, 5);
        int[] due = {0, 1, 0, 0};
        for (int card = 0; card < 4; card++) {
            Due.is("card(" + card + ", 7)", wall.card(card, 7), due[card]);
        }
        wall.unpin(1);
        Due.is("in the box", wall.card(1, 7), 0);
        Due.is("the next one", wall.card(2, 7), 1);
    }

    private static void cardRank() {
        Due.sentence("Promise 18", "8 for its rank among all cards on the wall as they are read (NONE in the box)");
        StoryWall wall = Walls.boxed(4);
        Due.is("in the box", wall.card(0, 8), NONE);
        wall.pin(0, 15, 0);
        Due.is("alone", wall.card(0, 8), 0);
        wall.pin(1, 15, 0);
        Due.is("behind one of its scene", wall.card(0, 8), 1);
        wall.pin(2, 0, 0);
        Due.is("behind one of another scene", wall.card(0, 8), 2);
        Walls.put(wall, 3, 5, 0, 1, 0);
        Due.is("behind one of another thread", wall.card(0, 8), 3);
        wall.unpin(0);
        Due.is("in the box again", wall.card(0, 8), NONE);
    }

    private static void cardAhead() {
        Due.sentence("Promise 18", "9 for the card ahead of it in the row of its thread (NONE without one, or in the box)");
        StoryWall wall = Walls.pinned(1, 2, 3);
        Walls.put(wall, 0, 1, 0, 1, 0);
        wall.add(0, 0, 1, 0);
        Due.is("the first one", wall.card(0, 9), NONE);
        Due.is("over another thread", wall.card(1, 9), 0);
        Due.is("the last one", wall.card(2, 9), 1);
        Due.is("the first of another thread", wall.card(3, 9), NONE);
        Due.is("in the box", wall.card(4, 9), NONE);
        wall.change(1, 3, 1);
        Due.is("a flashback", wall.card(2, 9), 1);
        Due.is("of a flashback", wall.card(1, 9), 0);
    }

    private static void cardAnswers() {
        Due.sentence("Promise 18", "Returns the number;");
        Due.sentence("Promise 18", "UNKNOWN;");
        Due.is("of an empty box, ahead of BAD_VALUE", new StoryWall().card(0, 10), UNKNOWN);
        Due.is("ahead of BAD_VALUE", Walls.boxed(1).card(1, -1), UNKNOWN);
        Due.sentence("Promise 18", "BAD_VALUE.");
        for (int what : new int[] {-1, 10, Integer.MIN_VALUE, Integer.MAX_VALUE}) {
            Due.is("card(0, " + what + ") in the box", Walls.boxed(1).card(0, what), BAD_VALUE);
            Due.is("card(0, " + what + ") on the wall", Walls.pinned(1).card(0, what), BAD_VALUE);
        }
    }

    private static void atScene() {
        Due.sentence("Promise 19", "`scene`: 0 to 15");
        Due.range("at() of scene", scene -> new StoryWall().at(scene, 0), 0, 15, NONE, UNKNOWN);
    }

    private static void atPlace() {
        Due.sentence("Promise 19", "`place`: a place, from 0");
        StoryWall wall = Walls.inScene(15, 0, 0, 0, 0, 0, 0);
        wall.add(0, 0, 1, 0);
        wall.pin(6, 0, 0);
        for (int place = 0; place < 6; place++) {
            Due.is("at(15, " + place + ")", wall.at(15, place), place);
        }
        Due.is("at(0, 0)", wall.at(0, 0), 6);
    }

    private static void atAnswers() {
        StoryWall wall = Walls.inScene(1, 0, 0, 0, 0, 0, 0);
        wall.add(0, 0, 1, 0);
        wall.pin(6, 2, 0);
        Due.sentence("Promise 19", "Returns the card;");
        Due.is("at(2, 0)", wall.at(2, 0), 6);
        Due.sentence("Promise 19", "UNKNOWN (scene);");
        Due.is("ahead of BAD_VALUE", wall.at(16, -1), UNKNOWN);
        Due.is("below, ahead of BAD_VALUE", wall.at(-1, -1), UNKNOWN);
        Due.is("a slot of the scene behind", wall.at(-1, 6), UNKNOWN);
        Due.sentence("Promise 19", "BAD_VALUE if place is negative;");
        Due.is("at(1, -1)", wall.at(1, -1), BAD_VALUE);
        Due.is("at(2, -1)", wall.at(2, -1), BAD_VALUE);
        Due.is("at(1, MIN)", wall.at(1, Integer.MIN_VALUE), BAD_VALUE);
        Due.sentence("Promise 19", "NONE if there are not so many.");
        Due.is("an empty scene", wall.at(0, 0), NONE);
        Due.is("behind six", wall.at(1, 6), NONE);
        Due.is("behind one", wall.at(2, 1), NONE);
        for (int place = 6; place < 20; place++) {
            Due.is("beyond the row, scene 0, place " + place, wall.at(0, place), NONE);
            Due.is("beyond the row, scene 1, place " + place, wall.at(1, place), NONE);
        }
        Due.is("at(1, MAX)", wall.at(1, Integer.MAX_VALUE), NONE);
        Due.is("at(15, MAX)", wall.at(15, Integer.MAX_VALUE), NONE);
    }

    private static void threadThread() {
        Due.sentence("Promise 20", "`thread`: 0 to 5");
        for (int what = 0; what < 8; what++) {
            int one = what;
            Due.range("thread(.., " + what + ")", thread -> new StoryWall().thread(thread, one), 0, 5, 0, UNKNOWN);
        }
    }

    private static void threadWhat() {
        Due.sentence("Promise 20", "`what`: 0 for its cards on the wall, 1 for its cards in the box, 2 for the cards of "
                + "its straight row, 3 for its breaks, 4 for its fewest moves, 5 for its thread holes, 6 for its time "
                + "holes, 7 for the words of its cards on the wall");
        StoryWall wall = Walls.rich();
        wall.change(2, 0, 60);
        wall.change(5, 0, 9999);
        int[][] due = {{4, 1, 3, 0, 0, 1, 1, 140}, {2, 0, 2, 1, 1, 0, 0, 70}, {0, 1, 0, 0, 0, 0, 0, 0},
            {0, 0, 0, 0, 0, 0, 0, 0}};
        for (int thread = 0; thread < due.length; thread++) {
            for (int what = 0; what < 8; what++) {
                Due.is("thread(" + thread + ", " + what + ")", wall.thread(thread, what), due[thread][what]);
            }
        }
    }

    private static void threadWords() {
        Due.sentence("Promise 20", "7 for the words of its cards on the wall");
        StoryWall wall = new StoryWall();
        for (int card = 0; card < 40; card++) {
            wall.add(5, 0, 999, 0);
        }
        Due.is("none on the wall", wall.thread(5, 7), 0);
        Due.is("all in the box", wall.thread(5, 1), 40);
        for (int card = 0; card < 40; card++) {
            wall.pin(card, card % 16, 0);
        }
        Due.is("the most words", wall.thread(5, 7), 39960);
        Due.is("all on the wall", wall.thread(5, 0), 40);
        Due.is("none in the box", wall.thread(5, 1), 0);
        Due.is("of another thread", wall.thread(4, 7), 0);
    }

    private static void threadAnswers() {
        Due.sentence("Promise 20", "Returns the number;");
        Due.sentence("Promise 20", "UNKNOWN;");
        Due.is("thread -1, ahead of BAD_VALUE", new StoryWall().thread(-1, -1), UNKNOWN);
        Due.is("thread 6, ahead of BAD_VALUE", new StoryWall().thread(6, 8), UNKNOWN);
        Due.sentence("Promise 20", "BAD_VALUE.");
        for (int what : new int[] {-1, 8, Integer.MIN_VALUE, Integer.MAX_VALUE}) {
            Due.is("thread(0, " + what + ")", Walls.pinned(1).thread(0, what), BAD_VALUE);
            Due.is("thread(5, " + what + ")", Walls.pinned(1).thread(5, what), BAD_VALUE);
        }
    }

    private static void sceneScene() {
        Due.sentence("Promise 21", "`scene`: 0 to 15");
        for (int what = 0; what < 7; what++) {
            int one = what;
            Due.range("scene(.., " + what + ")", scene -> new StoryWall().scene(scene, one), 0, 15, 0, UNKNOWN);
        }
    }

    private static void sceneWhat() {
        Due.sentence("Promise 21", "`what`: 0 for its cards, 1 for its words");
        StoryWall wall = new StoryWall();
        for (int card = 0; card < 6; card++) {
            Walls.put(wall, 15, 0, 0, 999, 0);
            Due.is("scene(15, 0)", wall.scene(15, 0), card + 1);
            Due.is("scene(15, 1)", wall.scene(15, 1), 999 * (card + 1));
        }
        Walls.put(wall, 0, 0, 0, 1, 0);
        Due.is("scene(0, 0)", wall.scene(0, 0), 1);
        Due.is("scene(0, 1)", wall.scene(0, 1), 1);
        Due.is("scene(1, 0)", wall.scene(1, 0), 0);
        Due.is("scene(1, 1)", wall.scene(1, 1), 0);
        Walls.put(wall, 0, 5, 0, 20, 0);
        Due.is("scene(0, 0) of two threads", wall.scene(0, 0), 2);
        Due.is("scene(0, 1) of two threads", wall.scene(0, 1), 21);
    }

    private static void sceneThreads() {
        Due.sentence("Promise 21", "2 for the threads that it has (a set, as bits)");
        StoryWall wall = new StoryWall();
        int[] due = {1, 3, 7, 15, 31, 63};
        for (int thread = 0; thread < 6; thread++) {
            Walls.put(wall, 8, thread, 0, 1, 0);
            Walls.put(wall, 9, 5 - thread, 0, 1, 0);
            Due.is("scene(8, 2)", wall.scene(8, 2), due[thread]);
            Due.is("scene(9, 2)", wall.scene(9, 2), 63 - (63 >> thread + 1));
        }
        Walls.put(wall, 15, 5, 0, 1, 0);
        Walls.put(wall, 15, 5, 0, 1, 0);
        Due.is("one thread twice", wall.scene(15, 2), 32);
        Due.is("no card", wall.scene(0, 2), 0);
    }

    private static void sceneHole() {
        Due.sentence("Promise 21", "3 for whether it is a scene hole (1, otherwise 0)");
        StoryWall wall = Walls.tense(NONE, 1, NONE, 1);
        int[] due = {0, 0, 1, 0, 0};
        for (int scene = 0; scene < due.length; scene++) {
            Due.is("scene(" + scene + ", 3)", wall.scene(scene, 3), due[scene]);
        }
    }

    private static void sceneRises() {
        Due.sentence("Promise 21", "4 for whether it rises (1, otherwise 0)");
        StoryWall wall = Walls.tense(NONE, 1, NONE, 2, 2);
        int[] due = {0, 0, 0, 1, 0, 0};
        for (int scene = 0; scene < due.length; scene++) {
            Due.is("scene(" + scene + ", 4)", wall.scene(scene, 4), due[scene]);
        }
    }

    private static void sceneBreaks() {
        Due.sentence("Promise 21", "5 for its breaks");
        StoryWall wall = Walls.inScene(3, 9, 8, 7, 6, 5, 4);
        Walls.put(wall, 4, 0, 3, 1, 0);
        Walls.put(wall, 4, 1, 2, 1, 0);
        Walls.put(wall, 4, 1, 1, 1, 0);
        int[] due = {0, 0, 0, 5, 2, 0};
        for (int scene = 0; scene < due.length; scene++) {
            Due.is("scene(" + scene + ", 5)", wall.scene(scene, 5), due[scene]);
        }
    }

    private static void sceneClimb() {
        Due.sentence("Promise 21", "6 for the scenes of the climb that ends with it (0 without cards)");
        StoryWall wall = Walls.tense(NONE, 1, NONE, 2, 3, 3);
        int[] due = {0, 1, 0, 2, 3, 1, 0};
        for (int scene = 0; scene < due.length; scene++) {
            Due.is("scene(" + scene + ", 6)", wall.scene(scene, 6), due[scene]);
        }
    }

    private static void sceneAnswers() {
        Due.sentence("Promise 21", "Returns the number;");
        Due.sentence("Promise 21", "UNKNOWN;");
        Due.is("scene -1, ahead of BAD_VALUE", new StoryWall().scene(-1, -1), UNKNOWN);
        Due.is("scene 16, ahead of BAD_VALUE", new StoryWall().scene(16, 7), UNKNOWN);
        Due.sentence("Promise 21", "BAD_VALUE.");
        for (int what : new int[] {-1, 7, Integer.MIN_VALUE, Integer.MAX_VALUE}) {
            Due.is("scene(0, " + what + ")", Walls.pinned(1).scene(0, what), BAD_VALUE);
            Due.is("scene(15, " + what + ")", Walls.pinned(1).scene(15, what), BAD_VALUE);
        }
    }

    private static void tensionScene() {
        Due.sentence("Promise 22", "`scene`: 0 to 15");
        StoryWall wall = Walls.boxed(1);
        wall.change(0, 2, 7);
        for (int scene = 0; scene < 16; scene++) {
            wall.pin(0, scene, 0);
            Due.isFloat("tension(" + scene + ")", wall.tension(scene), 7.0f);
        }
    }

    private static void tensionAnswers() {
        Due.sentence("Promise 22", "Returns its tension;");
        Due.isFloat("the least", Walls.tense(0).tension(0), 0.0f);
        Due.isFloat("the greatest", Walls.tense(100).tension(0), 100.0f);
        Due.sentence("Promise 22", "-1.0f if it has no cards, or there is no such scene.");
        for (int scene : new int[] {1, 15, -1, 16, Integer.MIN_VALUE, Integer.MAX_VALUE}) {
            Due.isFloat("tension(" + scene + ")", Walls.tense(100).tension(scene), -1.0f);
            Due.isFloat("tension(" + scene + ") of an empty wall", new StoryWall().tension(scene), -1.0f);
        }
        StoryWall wall = Walls.tense(100);
        wall.unpin(0);
        Due.isFloat("no cards any more", wall.tension(0), -1.0f);
    }

    private static void brokenTells() {
        Due.sentence("Promise 23", "Tells the breaks as they are read.");
        StoryWall wall = Walls.boxed(4);
        int[] hours = {5, 6, 7, 9};
        for (int card = 0; card < 4; card++) {
            wall.change(card, 0, hours[card]);
            wall.pin(card, 0, 0);
        }
        int late = Walls.put(wall, 15, 1, 9, 1, 0);
        int later = Walls.put(wall, 15, 1, 8, 1, 0);
        int[] due = {2, 1, 0, later, NONE};
        for (int rank = 0; rank < due.length; rank++) {
            Due.is("broken(" + rank + ")", wall.broken(rank), due[rank]);
        }
        wall.pin(late, 0, 1);
        wall.pin(later, 0, 2);
        Due.is("among those of another thread", wall.broken(0), later);
    }

    private static void brokenRank() {
        Due.sentence("Promise 23", "`rank`: a rank, from 0");
        StoryWall wall = new StoryWall();
        for (int card = 0; card < 40; card++) {
            Walls.put(wall, card / 6, 0, 100 - card, 1, 0);
        }
        for (int rank = 0; rank < 39; rank++) {
            Due.is("broken(" + rank + ")", wall.broken(rank), rank + 1);
        }
        Due.is("broken(39)", wall.broken(39), NONE);
    }

    private static void brokenAnswers() {
        Due.sentence("Promise 23", "Returns the card;");
        Due.is("a break", Walls.pinned(1, 0).broken(0), 1);
        Due.sentence("Promise 23", "BAD_VALUE if rank is negative;");
        for (int rank : new int[] {-1, NONE, Integer.MIN_VALUE}) {
            Due.is("broken(" + rank + ")", Walls.pinned(1, 0).broken(rank), BAD_VALUE);
            Due.is("broken(" + rank + ") of an empty wall", new StoryWall().broken(rank), BAD_VALUE);
        }
        Due.sentence("Promise 23", "NONE if there are not so many.");
        Due.is("of an empty wall", new StoryWall().broken(0), NONE);
        Due.is("without a break", Walls.pinned(0, 1).broken(0), NONE);
        Due.is("behind one", Walls.pinned(1, 0).broken(1), NONE);
        Due.is("far behind", Walls.pinned(1, 0).broken(Integer.MAX_VALUE), NONE);
    }

    private static void wouldTells() {
        Due.sentence("Promise 24", "Tells how many breaks all threads would have if a card was pinned somewhere else.");
        StoryWall wall = Walls.pinned(10, 30, 20);
        Walls.put(wall, 0, 1, 9, 1, 0);
        Walls.put(wall, 1, 1, 8, 1, 0);
        wall.add(0, 0, 1, 0);
        int[][] due = {{5, 0, 0, 2}, {5, 0, 1, 3}, {5, 15, 0, 3}, {1, 15, 0, 1}, {1, 1, 0, 2}, {1, 1, 1, 2}, {4, 0, 0, 1},
            {3, 15, 0, 1}, {0, 15, 0, 3}};
        for (int[] one : due) {
            Due.is("would(" + one[0] + ", " + one[1] + ", " + one[2] + ")", wall.would(one[0], one[1], one[2]), one[3]);
        }
        StoryWall broken = Walls.pinned(30, 20);
        int[][] between = {{10, 1}, {20, 1}, {25, 2}, {30, 1}, {40, 1}};
        broken.add(0, 0, 1, 0);
        for (int[] one : between) {
            broken.change(2, 0, one[0]);
            Due.is("the hour " + one[0] + " between 30 and 20", broken.would(2, 1, 0), one[1]);
        }
        broken.change(2, 3, 1);
        Due.is("a flashback between them", broken.would(2, 1, 0), 1);
        Due.is("a flashback behind them", broken.would(2, 15, 0), 1);
        broken.change(1, 3, 1);
        Due.is("no break without it", broken.would(1, 0, 0), 0);
        Due.is("nothing is pinned", wall.card(5, 5), NONE);
        Due.is("count(3)", wall.count(3), 2);
        Due.is("as pin() has it then", wall.pin(1, 15, 0), 0);
        Due.is("count(3) then", wall.count(3), 1);
    }

    private static void wouldArguments() {
        Due.sentence("Promise 24", "`card`: a card");
        Due.range("would() of card", card -> Walls.full().would(card, 0, 0), 0, 39, 0, UNKNOWN);
        Due.sentence("Promise 24", "`scene`: 0 to 15");
        Due.range("would() in scene", scene -> Walls.boxed(1).would(0, scene, 0), 0, 15, 0, UNKNOWN);
        Due.sentence("Promise 24", "`place`: as for pin()");
        Due.range("would() at place", place -> Walls.boxed(1).would(0, 15, place), 0, 0, 0, BAD_VALUE);
        Due.range("would() beside one", place -> {
            StoryWall wall = Walls.boxed(2);
            wall.pin(1, 3, 0);
            return wall.would(0, 3, place);
        }, 0, 1, 0, BAD_VALUE);
        Due.range("would() beside five of its scene", place -> Walls.inScene(15, 1, 1, 1, 1, 1, 1).would(3, 15, place),
                0, 5, 0, BAD_VALUE);
    }

    private static void wouldAnswers() {
        StoryWall wall = Walls.inScene(15, 6, 5, 4, 3, 2, 1);
        wall.add(0, 0, 1, 0);
        Due.sentence("Promise 24", "Returns how many;");
        Due.is("one less", wall.would(5, 15, 0), 4);
        Due.is("where it is", wall.would(5, 15, 5), 5);
        Due.sentence("Promise 24", "UNKNOWN (card or scene);");
        Due.is("of an empty box", new StoryWall().would(0, 0, 0), UNKNOWN);
        Due.is("card, ahead of FULL", wall.would(7, 15, 0), UNKNOWN);
        Due.is("card, ahead of BAD_VALUE", wall.would(-1, 0, -1), UNKNOWN);
        Due.is("scene, ahead of BAD_VALUE", wall.would(0, 16, -1), UNKNOWN);
        Due.is("both", wall.would(7, -1, 0), UNKNOWN);
        Due.sentence("Promise 24", "FULL if the scene has 6 (without this card);");
        Due.is("six others", wall.would(6, 15, 0), FULL);
        Due.is("ahead of BAD_VALUE, below", wall.would(6, 15, -1), FULL);
        Due.is("ahead of BAD_VALUE, beyond", wall.would(6, 15, 7), FULL);
        wall.pin(6, 0, 0);
        Due.is("from another scene", wall.would(6, 15, 6), FULL);
        Due.is("one of the six", wall.would(0, 15, 5), 4);
        Due.sentence("Promise 24", "BAD_VALUE (place).");
        Due.is("below", wall.would(0, 15, -1), BAD_VALUE);
        Due.is("beyond", wall.would(0, 15, 6), BAD_VALUE);
        Due.is("beyond, where it would be alone", wall.would(6, 0, 1), BAD_VALUE);
    }

    private static void bestTells() {
        Due.sentence("Promise 25", "Tells the place to which a card is best pinned: with the fewest breaks of all threads "
                + "(the place where it is now is one, too); of several the lowest scene, then the lowest place.");
        Due.is("of an empty wall", Walls.boxed(1).best(0), 0);
        Due.is("alone on the wall", Walls.pinned(1).best(0), 0);
        StoryWall ends = Walls.boxed(3);
        ends.change(0, 0, 10);
        ends.change(1, 0, 20);
        ends.change(2, 0, 30);
        ends.pin(0, 15, 0);
        ends.pin(1, 15, 1);
        Due.is("behind all, in the last scene", ends.best(2), 152);
        Due.is("ahead of all, from the last scene", ends.best(0), 0);
        Due.is("the place where it is", ends.best(1), 151);
        Due.sentence("Promise 25", "of several the lowest scene, then the lowest place.");
        StoryWall wall = Walls.inScene(2, 5, 5, 7);
        wall.add(0, 6, 1, 0);
        Due.is("the lowest place", wall.best(3), 22);
        Due.is("the lowest scene", Walls.pinned(1, 1, 1).best(2), 0);
        wall.change(3, 3, 1);
        Due.is("a flashback", wall.best(3), 0);
        wall.change(3, 3, 0);
        Due.is("nothing is pinned", wall.card(3, 5), NONE);
        Due.sentence("Promise 25", "(the place where it is now is one, too)");
        StoryWall full = Walls.inScene(0, 0, 1, 2, 3, 4, 5);
        Due.is("the last place of a full scene", full.best(5), 5);
        StoryWall broken = Walls.pinned(30, 20, 40);
        broken.add(0, 35, 1, 0);
        Due.is("between a break there is no break more", broken.best(3), 1);
        full.change(3, 0, 0);
        Due.is("a place of its own full scene", full.best(3), 0);
    }

    private static void bestCard() {
        Due.sentence("Promise 25", "`card`: a card");
        Due.range("best() of card", card -> Walls.full().best(card), 0, 39, 0, UNKNOWN);
    }

    private static void bestAnswers() {
        Due.sentence("Promise 25", "Returns 10 times the scene plus the place;");
        StoryWall last = Walls.inScene(15, 0, 1, 2, 3, 4);
        last.add(0, 9999, 1, 0);
        Due.is("the last slot", last.best(5), 155);
        Due.sentence("Promise 25", "UNKNOWN (there always is room, as there are at most 40 cards).");
        Due.is("of an empty box", new StoryWall().best(0), UNKNOWN);
        Due.is("the first one beyond", Walls.boxed(1).best(1), UNKNOWN);
        StoryWall behind = Walls.inScene(15, 0, 1, 2, 3, 4, 5);
        behind.add(0, 9999, 1, 0);
        Due.is("no room behind all", behind.best(6), 0);
        StoryWall wall = Walls.full();
        for (int card = 0; card < 39; card++) {
            wall.pin(card, card / 6, card % 6);
        }
        Due.is("beside 39 in full scenes", wall.best(39), 60);
        wall.change(39, 3, 1);
        Due.is("a flashback beside 39", wall.best(39), 60);
        wall.change(38, 0, 9999);
        wall.change(39, 3, 0);
        wall.change(39, 0, 9998);
        Due.is("ahead of the last of 39", wall.best(39), 62);
        wall.pin(39, 6, 0);
        Due.is("one of 40", wall.best(39), 62);
    }

    private static void countWhat() {
        Due.sentence("Promise 26", "`what`: 0 for cards so far, 1 for cards on the wall, 2 for scenes with cards, 3 for "
                + "breaks of all threads, 4 for thread holes of all threads, 5 for time holes of all threads, 6 for "
                + "scene holes, 7 for words on the wall, 8 for the scenes of the longest climb (0 without cards), 9 for "
                + "threads that stand by their hours, 10 to 12 for the settings, 13 for the states in the history, 14 "
                + "for the length of the text");
        StoryWall wall = Walls.rich();
        int[] due = {8, 6, 3, 3, 1, 0, 5, 210, 3, 4, 2, 19, 150, 4, 21};
        for (int what = 0; what < due.length; what++) {
            Due.is("count(" + what + ")", wall.count(what), due[what]);
        }
        StoryWall most = new StoryWall();
        for (int card = 0; card < 40; card++) {
            Walls.put(most, card / 6, card % 6, 100 - card / 6, 999, 0);
        }
        most.set(2, 0);
        int[] full = {40, 40, 7, 34, 0, 0, 0, 39960, 7, 0, 3, 100, 0, 4, 0};
        for (int what = 0; what < full.length; what++) {
            Due.is("count(" + what + ") of 40", most.count(what), full[what]);
        }
        Due.sentence("Promise 26", "3 for breaks of all threads, 4 for thread holes of all threads, 5 for time holes of "
                + "all threads");
        StoryWall each = new StoryWall();
        for (int thread = 0; thread < 6; thread++) {
            Walls.put(each, 0, thread, 500, 1, 0);
            Walls.put(each, 5 + thread / 3, thread, 400, 1, 0);
            Walls.put(each, 5 + thread / 3, thread, 501, 1, 0);
            Due.is("count(3)", each.count(3), thread + 1);
            Due.is("count(4)", each.count(4), thread + 1);
            Due.is("count(5)", each.count(5), thread + 1);
        }
        Due.sentence("Promise 26", "8 for the scenes of the longest climb (0 without cards)");
        Due.is("without cards on the wall", Walls.full().count(8), 0);
    }

    private static void countAnswers() {
        Due.sentence("Promise 26", "Returns the number;");
        Due.sentence("Promise 26", "BAD_VALUE.");
        for (int what : new int[] {-1, 15, 16, Integer.MIN_VALUE, Integer.MAX_VALUE}) {
            Due.is("count(" + what + ")", Walls.rich().count(what), BAD_VALUE);
            Due.is("count(" + what + ") at first", new StoryWall().count(what), BAD_VALUE);
        }
    }

    private static void spanBitsTells() {
        Due.sentence("Promise 27", "Tells the greatest tension of a scene less the least one, as floats, as bits "
                + "(Float.floatToIntBits).");
        Due.is("the widest", Walls.tense(100, 0).spanBits(), Float.floatToIntBits(100.0f));
        Due.is("one scene", Walls.tense(100).spanBits(), 0);
        Due.is("the same tensions", Walls.tense(7, 7, 7).spanBits(), 0);
        Due.is("neither is at an end", Walls.tense(5, 9, 2, 3).spanBits(), Float.floatToIntBits(7.0f));
        for (int tension = 1; tension <= 100; tension++) {
            Due.is("a span of " + tension, Walls.tense(0, tension).spanBits(), Float.floatToIntBits((float) tension));
        }
        StoryWall wall = Walls.tense(0);
        for (int place = 0; place < 6; place++) {
            Walls.put(wall, 1, 0, 0, place == 0 ? 1 : 999, place == 0 ? 1 : 0);
        }
        Due.is("the narrowest above 0", wall.spanBits(), Float.floatToIntBits(1.0f / 4996.0f));
        StoryWall floats = new StoryWall();
        Walls.put(floats, 0, 0, 0, 2, 100);
        Walls.put(floats, 0, 0, 0, 1, 0);
        Walls.put(floats, 1, 0, 0, 2, 0);
        Walls.put(floats, 1, 0, 0, 1, 1);
        Due.is("thirds", floats.spanBits(), Float.floatToIntBits(200.0f / 3.0f - 1.0f / 3.0f));
    }

    private static void spanBitsAnswers() {
        Due.sentence("Promise 27", "Returns the bits;");
        Due.is("of 1", Walls.tense(1, 2).spanBits(), 0x3f800000);
        Due.sentence("Promise 27", "0 without cards.");
        Due.is("of an empty wall", new StoryWall().spanBits(), 0);
        StoryWall wall = Walls.tense(1, 2);
        wall.unpin(0);
        wall.unpin(1);
        Due.is("of cards in the box", wall.spanBits(), 0);
    }
}
