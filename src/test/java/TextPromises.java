/** Promises 13 to 17, sentence by sentence: texts and history. */
final class TextPromises {
    private static final int FULL = StoryWall.FULL;
    private static final int NONE = StoryWall.NONE;

    private TextPromises() {
    }

    static void all() {
        typesBehind();
        typesAnyCharacter();
        typeLength();
        typeFull();
        clears();
        clearedLength();
        undoes();
        undoLeft();
        undoNone();
        keeps();
        keepCounts();
        restores();
        restoreCounts();
        restoreNone();
    }

    private static void typesBehind() {
        Due.sentence("Promise 13", "Types a character behind the text.");
        StoryWall wall = new StoryWall();
        for (char character : "F12,34,56*".toCharArray()) {
            wall.type(character);
        }
        wall.addAll();
        int[] due = {5, 12, 34, 56, 1};
        for (int what = 0; what < due.length; what++) {
            Due.is("card(0, " + what + ")", wall.card(0, what), due[what]);
        }
        Due.is("no act", wall.count(13), 1);
    }

    private static void typesAnyCharacter() {
        Due.sentence("Promise 13", "`character`: any character");
        StoryWall wall = new StoryWall();
        char[] characters = {'\u0000', '\n', ' ', 'A', '\u007f', '\u0080', '\u00ff', '\u0100', '\ud800', '\uffff'};
        for (int index = 0; index < characters.length; index++) {
            Due.is("type((char) " + (int) characters[index] + ")", wall.type(characters[index]), index + 1);
        }
        for (char character : characters) {
            Due.is("fault at 6 of " + (int) character, Walls.typed("A1,2,3" + character).addAll(), -106);
        }
    }

    private static void typeLength() {
        Due.sentence("Promise 13", "Returns the length of the text then;");
        StoryWall wall = new StoryWall();
        for (int length = 1; length <= 60; length++) {
            Due.is("type()", wall.type('A'), length);
            Due.is("count(14)", wall.count(14), length);
        }
    }

    private static void typeFull() {
        Due.sentence("Promise 13", "FULL if it has 60 characters.");
        StoryWall wall = new StoryWall();
        for (int length = 1; length <= 59; length++) {
            wall.type('A');
        }
        Due.is("with 59", wall.type('A'), 60);
        Due.is("with 60", wall.type('A'), FULL);
        Due.is("with 60 still", wall.type('B'), FULL);
        Due.is("count(14)", wall.count(14), 60);
        wall.clearText();
        Due.is("with none again", wall.type('A'), 1);
    }

    private static void clears() {
        Due.sentence("Promise 14", "Empties the text.");
        StoryWall wall = Walls.typed("A1,2,3");
        wall.clearText();
        Due.is("count(14)", wall.count(14), 0);
        Due.is("addAll()", wall.addAll(), -100);
        Due.is("no act", wall.count(13), 0);
        Walls.write(wall, "B");
        Due.is("nothing is left of it", wall.addAll(), -101);
    }

    private static void clearedLength() {
        Due.sentence("Promise 14", "Returns the length that it had.");
        StoryWall wall = new StoryWall();
        Due.is("0", wall.clearText(), 0);
        wall.type('A');
        Due.is("1", wall.clearText(), 1);
        for (int length = 1; length <= 61; length++) {
            wall.type('A');
        }
        Due.is("60", wall.clearText(), 60);
        Due.is("0 again", wall.clearText(), 0);
    }

    private static void undoes() {
        Due.sentence("Promise 15", "Removes and restores the latest state of the history.");
        StoryWall wall = Walls.inScene(15, 3, 2, 1);
        wall.straighten(0);
        wall.change(0, 3, 1);
        wall.undo();
        Due.is("the change", wall.card(0, 4), 0);
        Walls.row("still straight", wall, 15, 2, 1, 0);
        wall.undo();
        Walls.row("not straight", wall, 15, 0, 1, 2);
        wall.undo();
        Walls.row("not pinned", wall, 15, 0, 1);
        wall.undo();
        Due.is("not added", wall.count(0), 2);
        Due.is("the number is free", wall.add(5, 9, 9, 9), 2);
        Due.is("for another card", wall.card(2, 0), 5);
    }

    private static void undoLeft() {
        Due.sentence("Promise 15", "Returns the number of states that are left;");
        StoryWall wall = Walls.boxed(9);
        for (int left = 3; left >= 0; left--) {
            Due.is("undo()", wall.undo(), left);
        }
        wall.add(0, 0, 1, 0);
        Due.is("undo() of one", wall.undo(), 0);
    }

    private static void undoNone() {
        Due.sentence("Promise 15", "NONE if the history is empty.");
        StoryWall wall = new StoryWall();
        Due.is("at first", wall.undo(), NONE);
        wall.add(0, 0, 1, 0);
        wall.undo();
        Due.is("emptied", wall.undo(), NONE);
        Due.is("still", wall.undo(), NONE);
        Due.is("undo() is not undone", wall.count(0), 0);
    }

    private static void keeps() {
        Due.sentence("Promise 16", "Takes a snapshot of the state, in place of the one that was.");
        StoryWall wall = new StoryWall();
        wall.keep();
        wall.add(0, 1, 1, 1);
        wall.set(0, 0);
        Due.is("no act", wall.count(13), 2);
        wall.keep();
        wall.change(0, 0, 2);
        wall.set(0, 14);
        wall.restore();
        Due.is("the card of the latter one", wall.card(0, 1), 1);
        Due.is("the setting of the latter one", wall.count(10), 0);
        Due.same("a full state", Told.state(() -> {
            StoryWall rich = Walls.rich();
            rich.keep();
            rich.unpin(0);
            rich.change(1, 0, 0);
            rich.set(1, 9999);
            rich.add(0, 0, 1, 0);
            rich.restore();
            return rich;
        }), Told.state(Walls::rich));
    }

    private static void keepCounts() {
        Due.sentence("Promise 16", "Returns how many cards are on the wall.");
        StoryWall wall = Walls.full();
        Due.is("none of 40", wall.keep(), 0);
        for (int card = 0; card < 40; card++) {
            wall.pin(card, 15 - card / 6, 0);
            Due.is("keep()", wall.keep(), card + 1);
        }
    }

    private static void restores() {
        Due.sentence("Promise 17", "Restores the state of the snapshot, which stays. This is an act.");
        StoryWall wall = Walls.pinned(1, 2);
        wall.keep();
        for (int round = 0; round < 3; round++) {
            wall.unpin(0);
            wall.change(1, 0, 77);
            Due.is("restore()", wall.restore(), 2);
            Due.is("card(0, 5)", wall.card(0, 5), 0);
            Due.is("card(1, 1)", wall.card(1, 1), 2);
        }
        Due.is("undo()", wall.undo(), 3);
        Due.is("card(1, 1) undone", wall.card(1, 1), 77);
        Due.is("count(13)", wall.count(13), 3);
        wall.restore();
        Due.is("an act", wall.count(13), 4);
    }

    private static void restoreCounts() {
        Due.sentence("Promise 17", "Returns how many cards are on the wall then;");
        StoryWall wall = Walls.full();
        wall.keep();
        wall.pin(0, 0, 0);
        Due.is("none", wall.restore(), 0);
        for (int card = 0; card < 40; card++) {
            wall.pin(card, card % 16, 0);
        }
        wall.keep();
        wall.unpin(0);
        Due.is("40", wall.restore(), 40);
        Due.is("40, as it is already", wall.restore(), 40);
    }

    private static void restoreNone() {
        Due.sentence("Promise 17", "NONE if there is no snapshot.");
        StoryWall wall = Walls.pinned(1);
        Due.is("restore()", wall.restore(), NONE);
        Due.is("the card stays", wall.card(0, 5), 0);
        Due.is("count(13)", wall.count(13), 2);
        wall.undo();
        Due.is("a history is no snapshot", wall.restore(), NONE);
    }
}
