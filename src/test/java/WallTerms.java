/** The terms "CARDS AND THE WALL", "BREAKS AND HOLES" and "TENSION", sentence by sentence. */
final class WallTerms {
    private static final int UNKNOWN = StoryWall.UNKNOWN;
    private static final int BAD_VALUE = StoryWall.BAD_VALUE;
    private static final int FULL = StoryWall.FULL;
    private static final int NONE = StoryWall.NONE;

    private WallTerms() {
    }

    static void all() {
        atMost40Cards();
        numbersOfACard();
        boxOrWall();
        sixteenScenesOfSix();
        readSceneByScene();
        rowsOfAThread();
        breaks();
        standsByItsHours();
        fewestMoves();
        putStraight();
        settings();
        sceneSetting();
        hourSetting();
        riseSetting();
        threadHoles();
        timeHoles();
        sceneHoles();
        tensionOfAScene();
        noTensionWithoutCards();
        rises();
        risesAsFloats();
        risesByEachSetting();
        climbs();
    }

    private static void cards(String sentence) {
        Due.sentence("CARDS AND THE WALL", sentence);
    }

    private static void holes(String sentence) {
        Due.sentence("BREAKS AND HOLES", sentence);
    }

    private static void tension(String sentence) {
        Due.sentence("TENSION", sentence);
    }

    private static void atMost40Cards() {
        cards("There are at most 40 cards ever, numbered from 0.");
        StoryWall wall = new StoryWall();
        for (int card = 0; card < 40; card++) {
            Due.is("card() ahead of add()", wall.card(card, 0), UNKNOWN);
            Due.is("add()", wall.add(card % 6, card, 1, 0), card);
            Due.is("pin()", wall.pin(card, 9 + card / 6, card % 6), 0);
        }
        Due.is("a 41st", wall.add(0, 0, 1, 0), FULL);
        Due.is("count(0)", wall.count(0), 40);
        Due.is("count(1)", wall.count(1), 40);
        Due.is("card(0, 1)", wall.card(0, 1), 0);
        Due.is("card(39, 1)", wall.card(39, 1), 39);
        Due.is("card(39, 5)", wall.card(39, 5), 15);
        Due.is("card(39, 6)", wall.card(39, 6), 3);
        Due.is("card(39, 8)", wall.card(39, 8), 39);
        Due.is("card(0, 8)", wall.card(0, 8), 0);
        Due.is("card(40, 1)", wall.card(40, 1), UNKNOWN);
        Due.is("card(-1, 1)", wall.card(-1, 1), UNKNOWN);
    }

    private static void numbersOfACard() {
        cards("A card has a thread (0 to 5), an hour (0 to 9999), words (1 to 999), a tension (0 to 100), "
                + "and may be marked as a flashback.");
        StoryWall wall = new StoryWall();
        int[][] due = {{0, 0, 1, 0, 0}, {5, 9999, 999, 100, 1}};
        wall.add(0, 0, 1, 0);
        wall.add(5, 9999, 999, 100);
        wall.change(1, 3, 1);
        for (int card = 0; card < 2; card++) {
            for (int what = 0; what < 5; what++) {
                Due.is("card(" + card + ", " + what + ")", wall.card(card, what), due[card][what]);
            }
        }
    }

    private static void boxOrWall() {
        cards("It is in the box (at first), or pinned to the wall.");
        StoryWall wall = Walls.typed("B1,1,1");
        wall.add(1, 0, 1, 0);
        wall.addAll();
        for (int card = 0; card < 2; card++) {
            Due.is("scene at first", wall.card(card, 5), NONE);
            Due.is("place at first", wall.card(card, 6), NONE);
        }
        Due.is("in the box at first", wall.thread(1, 1), 2);
        wall.pin(0, 0, 0);
        Due.is("in the box then", wall.thread(1, 1), 1);
        Due.is("on the wall then", wall.thread(1, 0), 1);
        Due.is("scene then", wall.card(0, 5), 0);
        wall.unpin(0);
        Due.is("in the box again", wall.thread(1, 1), 2);
        Due.is("on the wall no more", wall.thread(1, 0), 0);
    }

    private static void sixteenScenesOfSix() {
        cards("The wall has 16 scenes, numbered from 0, each with a row of at most 6 cards, at places from 0.");
        for (int scene = 0; scene < 16; scene++) {
            StoryWall wall = Walls.boxed(7);
            for (int place = 0; place < 6; place++) {
                Due.is("pin() in scene " + scene, wall.pin(place, scene, place), 0);
                Due.is("at(" + scene + ", " + place + ")", wall.at(scene, place), place);
            }
            Due.is("a seventh card in scene " + scene, wall.pin(6, scene, 0), FULL);
            Due.is("a place below in scene " + scene, wall.at(scene, -1), BAD_VALUE);
            Due.is("a place beyond in scene " + scene, wall.at(scene, 6), NONE);
            Due.is("cards of scene " + scene, wall.scene(scene, 0), 6);
        }
        Due.is("scene -1", new StoryWall().scene(-1, 0), UNKNOWN);
        Due.is("scene 16", new StoryWall().scene(16, 0), UNKNOWN);
    }

    private static void readSceneByScene() {
        cards("The cards on the wall are read scene by scene, and in a scene by their places.");
        StoryWall wall = Walls.boxed(6);
        wall.pin(0, 15, 0);
        wall.pin(1, 15, 1);
        wall.pin(2, 0, 0);
        wall.pin(3, 0, 0);
        wall.pin(4, 7, 0);
        int[] ranks = {3, 4, 1, 0, 2, NONE};
        for (int card = 0; card < 6; card++) {
            Due.is("card(" + card + ", 8)", wall.card(card, 8), ranks[card]);
        }
        StoryWall full = Walls.full();
        for (int card = 0; card < 40; card++) {
            full.pin(card, card / 6, card % 6);
        }
        for (int card = 0; card < 40; card++) {
            Due.is("card(" + card + ", 8) of 40", full.card(card, 8), card);
        }
    }

    private static void rowsOfAThread() {
        cards("The row of a thread is its cards on the wall in the order in which they are read; "
                + "its straight row is those of them that are no flashbacks.");
        StoryWall wall = Walls.inScene(3, 1, 2, 3);
        Walls.put(wall, 3, 1, 0, 1, 0);
        wall.add(0, 0, 1, 0);
        Due.is("row without the box", wall.thread(0, 0), 3);
        Due.is("straight row", wall.thread(0, 2), 3);
        Due.is("of a thread without cards", wall.thread(5, 2), 0);
        for (int card = 0; card < 3; card++) {
            wall.change(card, 3, 1);
            Due.is("row with flashbacks", wall.thread(0, 0), 3);
            Due.is("straight row without flashbacks", wall.thread(0, 2), 2 - card);
        }
        Due.is("first of the row", wall.card(0, 9), NONE);
        Due.is("ahead of the last of the row", wall.card(2, 9), 1);
        wall.change(4, 3, 1);
        Due.is("a flashback in the box", wall.thread(0, 2), 0);
    }

    private static void breaks() {
        holes("A break is a card of a straight row whose hour is less than that of the card ahead of it "
                + "in the straight row.");
        Due.is("an hour less by 1", Walls.pinned(50, 49).count(3), 1);
        Due.is("the same hour", Walls.pinned(50, 50).count(3), 0);
        Due.is("an hour more by 1", Walls.pinned(50, 51).count(3), 0);
        Due.is("the least behind the greatest", Walls.pinned(9999, 0).count(3), 1);
        Due.is("the greatest behind the least", Walls.pinned(0, 9999).count(3), 0);
        Due.is("one card alone", Walls.pinned(0).count(3), 0);
        Due.is("the card just ahead, not an earlier one", Walls.pinned(50, 10, 20).count(3), 1);
        StoryWall wall = Walls.pinned(50, 10, 40);
        wall.change(1, 3, 1);
        Due.is("a flashback is none", wall.card(1, 7), 0);
        Due.is("over a flashback", wall.card(2, 7), 1);
        wall.change(0, 3, 1);
        Due.is("only flashbacks ahead", wall.card(2, 7), 0);
        StoryWall two = Walls.pinned(50);
        Walls.put(two, 1, 1, 10, 1, 0);
        Due.is("another thread ahead", two.card(1, 7), 0);
        StoryWall box = Walls.pinned(50, 10);
        box.unpin(1);
        Due.is("in the box", box.card(1, 7), 0);
    }

    private static void standsByItsHours() {
        holes("A thread stands by its hours if it has no break.");
        Due.is("six threads without cards", new StoryWall().count(9), 6);
        StoryWall wall = new StoryWall();
        for (int thread = 0; thread < 6; thread++) {
            Walls.put(wall, thread, thread, 5, 1, 0);
            Walls.put(wall, thread, thread, 4, 1, 0);
            Due.is("after a break in thread " + thread, wall.count(9), 5 - thread);
        }
        wall.change(1, 0, 5);
        Due.is("one stands again", wall.count(9), 1);
    }

    private static void moves(String what, StoryWall wall, int due) {
        Due.is("fewest moves, " + what, wall.thread(0, 4), due);
    }

    private static void fewestMoves() {
        holes("The fewest moves of a thread are the cards of its straight row, less as many as there are in the "
                + "longest row of cards that is left when some of them are taken out, so that no hour is less than "
                + "the one ahead of it.");
        moves("no card", new StoryWall(), 0);
        moves("one card", Walls.pinned(7), 0);
        moves("the same hours", Walls.pinned(7, 7, 7), 0);
        moves("falling", Walls.pinned(9, 8, 7), 2);
        moves("the longest row is not the first one", Walls.pinned(5, 6, 1, 2, 3), 2);
        moves("the longest row does not end with the last", Walls.pinned(1, 2, 3, 0), 1);
        moves("the longest row begins late", Walls.pinned(9, 1, 2, 3), 1);
        moves("all but the ends", Walls.pinned(0, 9, 8, 7, 9999), 2);
        StoryWall flashbacks = Walls.pinned(9, 8, 7);
        for (int card = 0; card < 3; card++) {
            flashbacks.change(card, 3, 1);
        }
        moves("flashbacks alone", flashbacks, 0);
        StoryWall falling = new StoryWall();
        StoryWall rising = new StoryWall();
        for (int card = 0; card < 40; card++) {
            Walls.put(falling, card / 6, 0, 9999 - card, 1, 0);
            Walls.put(rising, card / 6, 0, card, 1, 0);
        }
        moves("40 falling", falling, 39);
        moves("40 rising", rising, 0);
    }

    private static void putStraight() {
        holes("To put a thread straight: the cards of its straight row change places among one another, so that "
                + "they are read by rising hours, of the same hour by rising numbers.");
        StoryWall wall = Walls.pinned(9999, 0, 0);
        wall.swap(1, 2);
        Due.is("straighten(0)", wall.straighten(0), 2);
        int[] due = {1, 2, 0};
        for (int scene = 0; scene < 3; scene++) {
            Due.is("at(" + scene + ", 0)", wall.at(scene, 0), due[scene]);
        }
        StoryWall full = new StoryWall();
        for (int card = 0; card < 40; card++) {
            Walls.put(full, card / 6, 0, 9999 - card / 2, 1, 0);
        }
        Due.is("straighten(0) of 40", full.straighten(0), 40);
        for (int rank = 0; rank < 40; rank++) {
            int card = 38 - rank / 2 * 2 + rank % 2;
            Due.is("at rank " + rank, full.at(rank / 6, rank % 6), card);
        }
        Due.is("breaks of 40", full.count(3), 0);
    }

    private static void settings() {
        holes("The settings are (in parentheses: range; first value):");
        StoryWall wall = new StoryWall();
        Due.is("set(-1, 5)", wall.set(-1, 5), BAD_VALUE);
        Due.is("set(3, 5)", wall.set(3, 5), BAD_VALUE);
        holes("in parentheses: range; first value");
        Due.is("count(10)", wall.count(10), 3);
        Due.is("count(11)", wall.count(11), 100);
        Due.is("count(12)", wall.count(12), 100);
    }

    private static void setting(int which, int least, int most, int first) {
        Due.range("set(" + which + ", ..)", value -> new StoryWall().set(which, value), least, most, first, BAD_VALUE);
        Due.is("the first value again", new StoryWall().set(which, first), NONE);
        StoryWall wall = new StoryWall();
        for (int value : new int[] {least, most, least + 1, most - 1}) {
            wall.set(which, value);
            Due.is("count() of " + value, wall.count(10 + which), value);
        }
    }

    private static void sceneSetting() {
        holes("0 the most scenes without a thread (0 to 14; 3)");
        setting(0, 0, 14, 3);
    }

    private static void hourSetting() {
        holes("1 the most hours without a thread (1 to 9999; 100)");
        setting(1, 1, 9999, 100);
    }

    private static void riseSetting() {
        holes("2 the rise that counts, in hundredths (0 to 1000; 100).");
        setting(2, 0, 1000, 100);
    }

    /** Two cards of a thread with so many scenes between. */
    private static int threadHoles(int setting, int between) {
        StoryWall wall = Walls.boxed(2);
        wall.set(0, setting);
        wall.pin(0, 0, 0);
        wall.pin(1, between + 1, 0);
        Due.is("thread(0, 5) and count(4)", wall.thread(0, 5), wall.count(4));
        return wall.count(4);
    }

    private static void threadHoles() {
        holes("A thread hole is a pair of cards that follow one another in the row of a thread, with more scenes "
                + "between their scenes (with cards or without) than the setting 0.");
        for (int setting = 0; setting <= 14; setting++) {
            Due.is("as many as " + setting, threadHoles(setting, setting), 0);
            if (setting < 14) {
                Due.is("one more than " + setting, threadHoles(setting, setting + 1), 1);
            }
        }
        Due.is("14 scenes between, none allowed", threadHoles(0, 14), 1);
        StoryWall wall = Walls.boxed(3);
        wall.set(0, 0);
        wall.pin(0, 4, 0);
        wall.pin(1, 4, 1);
        Due.is("in one scene", wall.count(4), 0);
        wall.pin(1, 6, 0);
        Walls.put(wall, 5, 1, 0, 1, 0);
        Due.is("the scene between has cards", wall.count(4), 1);
        wall.pin(2, 5, 0);
        Due.is("they do not follow one another", wall.count(4), 0);
        wall.change(2, 3, 1);
        Due.is("a flashback is in the row", wall.count(4), 0);
        wall.unpin(2);
        Due.is("the box is not", wall.count(4), 1);
        wall.unpin(1);
        Due.is("one card alone", wall.count(4), 0);
    }

    private static int timeHoles(int setting, int early, int late) {
        StoryWall wall = Walls.pinned(early, late);
        wall.set(1, setting);
        Due.is("thread(0, 6) and count(5)", wall.thread(0, 6), wall.count(5));
        return wall.count(5);
    }

    private static void timeHoles() {
        holes("A time hole is a pair of cards that follow one another in a straight row, the latter one with an hour "
                + "that is more than the setting 1 greater.");
        Due.is("as many as 1", timeHoles(1, 20, 21), 0);
        Due.is("one more than 1", timeHoles(1, 20, 22), 1);
        Due.is("as many as 100", timeHoles(100, 20, 120), 0);
        Due.is("one more than 100", timeHoles(100, 20, 121), 1);
        Due.is("as many as 9999", timeHoles(9999, 0, 9999), 0);
        Due.is("one more than 9998", timeHoles(9998, 0, 9999), 1);
        Due.is("an hour that is less", timeHoles(1, 9999, 0), 0);
        Due.is("the same hour", timeHoles(1, 5, 5), 0);
        StoryWall wall = Walls.pinned(0, 60, 120);
        Due.is("they follow one another", wall.count(5), 0);
        wall.change(1, 3, 1);
        Due.is("a flashback is not in the straight row", wall.count(5), 1);
        wall.change(2, 3, 1);
        Due.is("one card alone", wall.count(5), 0);
    }

    private static void sceneHoles() {
        holes("A scene hole is a scene without cards that has a card in some scene ahead of it and in some scene "
                + "behind it.");
        Due.is("of an empty wall", new StoryWall().count(6), 0);
        StoryWall wall = Walls.boxed(2);
        wall.pin(0, 0, 0);
        Due.is("none behind", wall.count(6), 0);
        wall.pin(0, 15, 0);
        Due.is("none ahead", wall.count(6), 0);
        wall.pin(1, 14, 0);
        Due.is("side by side", wall.count(6), 0);
        wall.pin(1, 13, 0);
        Due.is("one between", wall.count(6), 1);
        Due.is("scene(14, 3)", wall.scene(14, 3), 1);
        Due.is("with cards", wall.scene(13, 3), 0);
        Due.is("ahead of all", wall.scene(12, 3), 0);
        wall.pin(1, 0, 0);
        Due.is("all but the ends", wall.count(6), 14);
        for (int scene = 0; scene < 16; scene++) {
            Due.is("scene(" + scene + ", 3)", wall.scene(scene, 3), scene > 0 && scene < 15 ? 1 : 0);
        }
    }

    private static void tensionOfAScene() {
        tension("The tension of a scene with cards is a float: the sum, over its cards by their places, beginning "
                + "with 0.0f, of (float) tension * (float) words, divided by (float) of the sum of their words.");
        StoryWall wall = new StoryWall();
        Walls.put(wall, 0, 0, 0, 1, 0);
        Due.isFloat("the least", wall.tension(0), 0.0f);
        Walls.put(wall, 15, 0, 0, 999, 100);
        Due.isFloat("the greatest", wall.tension(15), 100.0f);
        for (int place = 1; place < 6; place++) {
            Walls.put(wall, 15, 0, 0, 999, 100);
        }
        Due.isFloat("six of the greatest", wall.tension(15), 100.0f);
        int[][] cards = {{7, 33}, {999, 99}, {1, 100}, {500, 1}, {13, 77}, {998, 64}};
        float sum = 0.0f;
        int words = 0;
        for (int[] card : cards) {
            Walls.put(wall, 8, 5, 0, card[0], card[1]);
            sum = sum + (float) card[1] * (float) card[0];
            words += card[0];
            Due.isFloat("words " + words, wall.tension(8), sum / (float) words);
        }
        wall.change(7, 3, 1);
        Due.isFloat("a flashback counts, too", wall.tension(8), sum / (float) words);
    }

    private static void noTensionWithoutCards() {
        tension("A scene without cards has none.");
        StoryWall wall = Walls.tense(10, NONE, 11);
        Due.isFloat("tension(1)", wall.tension(1), -1.0f);
        Due.is("it does not rise", wall.scene(1, 4), 0);
        Due.is("it is not risen from", wall.scene(2, 6), 2);
        Due.is("it is not the least", wall.spanBits(), Float.floatToIntBits(1.0f));
    }

    /** Whether the second of two scenes rises, with so many hundredths as the rise that counts. */
    private static int rises(int rise, int first, int second) {
        StoryWall wall = Walls.tense(first, second);
        wall.set(2, rise);
        return wall.scene(1, 4);
    }

    private static void rises() {
        tension("A scene rises if it has cards, there is a scene with cards ahead of it, and its tension less that "
                + "of the last such scene is at least ((float) of the setting 2) / 100.0f.");
        Due.is("just 1", rises(100, 10, 11), 1);
        Due.is("less than 1.01", rises(101, 10, 11), 0);
        Due.is("more than 0.99", rises(99, 10, 11), 1);
        Due.is("just 10", rises(1000, 90, 100), 1);
        Due.is("less than 10", rises(1000, 91, 100), 0);
        Due.is("0 is at least 0", rises(0, 50, 50), 1);
        Due.is("0 is less than 0.01", rises(1, 50, 50), 0);
        Due.is("a fall", rises(0, 50, 49), 0);
        StoryWall wall = Walls.tense(NONE, 0, NONE, 50, 1, NONE, 2);
        int[] due = {0, 0, 0, 1, 0, 0, 1};
        for (int scene = 0; scene < due.length; scene++) {
            Due.is("scene(" + scene + ", 4)", wall.scene(scene, 4), due[scene]);
        }
        wall.set(2, 0);
        Due.is("no scene with cards ahead", wall.scene(1, 4), 0);
        Due.is("no cards", wall.scene(2, 4), 0);
        Due.is("no cards ahead of all", wall.scene(0, 4), 0);
    }

    /** Two scenes of two cards each, whose tensions are the fractions that the words make. */
    private static StoryWall fractions(int[] tensions, int[] words) {
        StoryWall wall = new StoryWall();
        for (int card = 0; card < 4; card++) {
            Walls.put(wall, card / 2, 0, 0, words[card], tensions[card]);
        }
        return wall;
    }

    private static void risesAsFloats() {
        tension("at least ((float) of the setting 2) / 100.0f.");
        StoryWall less = fractions(new int[] {24, 51, 78, 21}, new int[] {4, 4, 4, 6});
        less.set(2, 630);
        Due.is("6.3 by the numbers, less as floats", less.scene(1, 4), 0);
        less.set(2, 629);
        Due.is("6.29", less.scene(1, 4), 1);
        StoryWall just = fractions(new int[] {22, 1, 47, 1}, new int[] {6, 8, 4, 6});
        just.set(2, 940);
        Due.is("9.4 as a float, less as a double", just.scene(1, 4), 1);
        just.set(2, 941);
        Due.is("9.41", just.scene(1, 4), 0);
        StoryWall tenth = fractions(new int[] {1, 0, 1, 0}, new int[] {3, 37, 7, 33});
        tenth.set(2, 10);
        Due.is("10 * 0.01f, but less than 10 / 100.0f", tenth.scene(1, 4), 0);
        tenth.set(2, 9);
        Due.is("more than 9 / 100.0f", tenth.scene(1, 4), 1);
    }

    /** A scene of tension 0, and one of 100 words whose tension is so many hundredths. */
    private static StoryWall hundredths(int hundredths) {
        StoryWall wall = Walls.tense(0);
        int higher = hundredths % 100;
        Walls.put(wall, 1, 0, 0, 100 - higher, hundredths / 100);
        if (higher > 0) {
            Walls.put(wall, 1, 0, 0, higher, hundredths / 100 + 1);
        }
        return wall;
    }

    /** A rise of just so many hundredths counts, whichever the setting: it is the same float then. */
    private static void risesByEachSetting() {
        tension("at least ((float) of the setting 2) / 100.0f.");
        for (int setting = 0; setting <= 1000; setting++) {
            StoryWall wall = hundredths(setting);
            Due.isFloat("the tension of " + setting, wall.tension(1), (float) setting / 100.0f);
            wall.set(2, setting);
            Due.is("just " + setting, wall.scene(1, 4), 1);
            wall.set(2, setting + 1);
            Due.is("less than " + (setting + 1), wall.scene(1, 4), setting < 1000 ? 0 : 1);
        }
    }

    private static void climbs() {
        tension("A climb is a row of scenes with cards that follow one another (scenes without cards between them do "
                + "not count), each of which but the first one rises.");
        Due.is("without cards", new StoryWall().count(8), 0);
        Due.is("one scene", Walls.tense(0).count(8), 1);
        Due.is("two that do not rise", Walls.tense(5, 5).count(8), 1);
        StoryWall wall = Walls.tense(1, 2, 3, NONE, 4, NONE, NONE, 5, 5, 6);
        int[] due = {1, 2, 3, 0, 4, 0, 0, 5, 1, 2};
        for (int scene = 0; scene < due.length; scene++) {
            Due.is("scene(" + scene + ", 6)", wall.scene(scene, 6), due[scene]);
        }
        Due.is("the longest ends ahead of the last", wall.count(8), 5);
        StoryWall all = Walls.tense(0, 1, 2, 3, 4, 5, 6, 7, 8, 9, 10, 11, 12, 13, 14, 15);
        Due.is("all scenes", all.count(8), 16);
        Due.is("scene(15, 6)", all.scene(15, 6), 16);
        all.set(2, 101);
        Due.is("none rises", all.count(8), 1);
    }
}
