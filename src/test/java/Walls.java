/** Walls to begin with. */
final class Walls {
    private Walls() {
    }

    /** A wall with a text typed. */
    static StoryWall typed(String text) {
        StoryWall wall = new StoryWall();
        write(wall, text);
        return wall;
    }

    static void write(StoryWall wall, String text) {
        wall.clearText();
        for (int i = 0; i < text.length(); i++) {
            wall.type(text.charAt(i));
        }
    }

    /** Cards of thread 0, words 1 and tension 0 in the box. */
    static StoryWall boxed(int cards) {
        StoryWall wall = new StoryWall();
        for (int card = 0; card < cards; card++) {
            wall.add(0, 0, 1, 0);
        }
        return wall;
    }

    static StoryWall full() {
        return boxed(40);
    }

    /** A wall with one card of thread 0 for each hour, one a scene from scene 0. */
    static StoryWall pinned(int... hours) {
        StoryWall wall = new StoryWall();
        for (int i = 0; i < hours.length; i++) {
            wall.add(0, hours[i], 100, 50);
            wall.pin(i, i, 0);
        }
        return wall;
    }

    /** A wall with one card of thread 0 for each hour, all in one scene. */
    static StoryWall inScene(int scene, int... hours) {
        StoryWall wall = new StoryWall();
        for (int i = 0; i < hours.length; i++) {
            wall.add(0, hours[i], 100, 50);
            wall.pin(i, scene, i);
        }
        return wall;
    }

    /** A wall with one card for each tension, one a scene from scene 0; NONE leaves a scene without cards. */
    static StoryWall tense(int... tensions) {
        StoryWall wall = new StoryWall();
        for (int i = 0; i < tensions.length; i++) {
            if (tensions[i] != StoryWall.NONE) {
                put(wall, i, 0, 0, 10, tensions[i]);
            }
        }
        return wall;
    }

    /** Adds a card and pins it behind the others of a scene. */
    static int put(StoryWall wall, int scene, int thread, int hour, int words, int tension) {
        int card = wall.add(thread, hour, words, tension);
        wall.pin(card, scene, wall.scene(scene, 0));
        return card;
    }

    /**
     * Six cards on the wall (two in scene 2, three in scene 5, one in scene 9), two in the box,
     * breaks, a flashback, settings of their own, a full history, a snapshot and a text.
     */
    static StoryWall rich() {
        StoryWall wall = typed("A1,2,3;F9999,999,100*");
        put(wall, 2, 0, 50, 10, 20);
        put(wall, 2, 1, 60, 20, 30);
        put(wall, 5, 0, 40, 30, 40);
        put(wall, 5, 0, 70, 40, 50);
        wall.keep();
        put(wall, 5, 1, 10, 50, 60);
        put(wall, 9, 0, 30, 60, 70);
        wall.add(2, 5, 70, 80);
        wall.add(0, 45, 80, 90);
        wall.change(3, 3, 1);
        wall.set(0, 2);
        wall.set(1, 19);
        wall.set(2, 150);
        return wall;
    }

    static void row(String when, StoryWall wall, int scene, int... cards) {
        Due.is(when + ": scene(" + scene + ", 0)", wall.scene(scene, 0), cards.length);
        for (int place = 0; place < cards.length; place++) {
            Due.is(when + ": at(" + scene + ", " + place + ")", wall.at(scene, place), cards[place]);
        }
        Due.is(when + ": at(" + scene + ", " + cards.length + ")", wall.at(scene, cards.length), StoryWall.NONE);
    }
}
