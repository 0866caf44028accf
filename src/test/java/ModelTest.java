import java.util.Random;

/** Runs of calls, drawn from fixed seeds, on StoryWall and on Model: the answers have to be the same. */
public final class ModelTest {
    private static final int RUNS = 3000;
    private static final int CALLS = 512;
    private static final int[] EDGES = {Integer.MIN_VALUE, -6, -5, -2, -1, 16, 17, 40, 41, 96, 10000, Integer.MAX_VALUE};

    private final Random random;
    private final StoryWall wall = new StoryWall();
    private final Model model = new Model();
    /** Narrow runs keep to few scenes, threads and hours, so that rows get full and hours the same. */
    private final int scenes;
    private final int threads;
    private final int hours;
    private final int asking;
    private int cards;

    private ModelTest(long seed) {
        random = new Random(seed);
        scenes = random.nextBoolean() ? 16 : 1 + random.nextInt(8);
        threads = 1 + random.nextInt(6);
        hours = random.nextBoolean() ? 10000 : 2 + random.nextInt(20);
        asking = 20 + random.nextInt(60);
    }

    public static void main(String[] args) {
        for (int seed = 0; seed < RUNS && Due.wrongSoFar() < 20; seed++) {
            Due.part("seed " + seed);
            new ModelTest(seed).run();
        }
        Due.tell("ModelTest");
    }

    private void run() {
        for (int call = 0; call < CALLS && Due.wrongSoFar() < 20; call++) {
            if (random.nextInt(100) < asking) {
                ask();
            } else {
                act();
            }
        }
    }

    private int draw(int bound) {
        return random.nextInt(60) == 0 ? EDGES[random.nextInt(EDGES.length)] : random.nextInt(bound);
    }

    private int drawCard() {
        return draw(Math.max(1, cards));
    }

    private int drawScene() {
        return draw(random.nextInt(20) == 0 ? 16 : scenes);
    }

    private void act() {
        switch (random.nextInt(28)) {
            case 0: case 1: case 2: case 3: add(); break;
            case 4: case 5: addAll(); break;
            case 6: case 7: change(); break;
            case 8: case 9: case 10: case 11: case 12: case 13: case 14: case 15: pin(); break;
            case 16: unpin(); break;
            case 17: swap(); break;
            case 18: actOn("straighten", draw(threads)); break;
            case 19: actOn("insertScene", drawScene()); break;
            case 20: actOn("removeScene", drawScene()); break;
            case 21: swapScenes(); break;
            case 22: set(); break;
            case 23: Due.is("keep()", wall.keep(), model.keep()); break;
            case 24: restore(); break;
            case 25: case 26: undo(); break;
            default: typeSome(); break;
        }
        cards = model.count(0);
    }

    private void add() {
        int thread = draw(threads);
        int hour = draw(hours);
        int words = random.nextInt(30) == 0 ? draw(1002) : 1 + random.nextInt(999);
        int tension = random.nextInt(30) == 0 ? draw(103) : random.nextInt(101);
        Due.is("add(" + thread + ", " + hour + ", " + words + ", " + tension + ")",
                wall.add(thread, hour, words, tension), model.add(thread, hour, words, tension));
    }

    private String number(int bound) {
        return Integer.toString(random.nextInt(4) == 0 ? random.nextInt(3) : random.nextInt(bound));
    }

    private void addAll() {
        StringBuilder text = new StringBuilder();
        int written = 1 + random.nextInt(4);
        for (int i = 0; i < written; i++) {
            text.append(i == 0 ? "" : ";").append((char) ('A' + random.nextInt(threads))).append(number(hours))
                    .append(',').append(number(1003)).append(',').append(number(random.nextInt(5) == 0 ? 110 : 101))
                    .append(random.nextBoolean() ? "*" : "");
        }
        if (random.nextInt(3) == 0) {
            spoil(text);
        }
        Due.is("clearText()", wall.clearText(), model.clearText());
        for (int i = 0; i < text.length(); i++) {
            type(text.charAt(i));
        }
        Due.is("addAll() of " + text, wall.addAll(), model.addAll());
    }

    private void spoil(StringBuilder text) {
        String signs = "ABCDEFG@0123456789,;* :/a\u0130\u0661";
        int index = random.nextInt(text.length());
        char sign = signs.charAt(random.nextInt(signs.length()));
        switch (random.nextInt(4)) {
            case 0: text.setCharAt(index, sign); break;
            case 1: text.insert(index, sign); break;
            case 2: text.deleteCharAt(index); break;
            default: text.setLength(index); break;
        }
    }

    private void type(char character) {
        Due.is("type((char) " + (int) character + ")", wall.type(character), model.type(character));
    }

    private void typeSome() {
        String signs = "A1,2,3;*";
        for (int i = random.nextInt(30); i >= 0; i--) {
            type(signs.charAt(random.nextInt(signs.length())));
        }
        Due.is("addAll()", wall.addAll(), model.addAll());
    }

    private void change() {
        int card = drawCard();
        int what = draw(4);
        int value = what == 0 ? draw(hours) : what == 1 ? draw(1001) : what == 2 ? draw(102) : draw(2);
        Due.is("change(" + card + ", " + what + ", " + value + ")",
                wall.change(card, what, value), model.change(card, what, value));
    }

    private void pin() {
        int card = drawCard();
        int scene = drawScene();
        int place = draw(1 + Math.max(0, model.scene(scene, 0)));
        Due.is("pin(" + card + ", " + scene + ", " + place + ")",
                wall.pin(card, scene, place), model.pin(card, scene, place));
    }

    private void unpin() {
        int card = drawCard();
        Due.is("unpin(" + card + ")", wall.unpin(card), model.unpin(card));
    }

    private void swap() {
        int one = drawCard();
        int other = drawCard();
        Due.is("swap(" + one + ", " + other + ")", wall.swap(one, other), model.swap(one, other));
    }

    private void swapScenes() {
        int one = drawScene();
        int other = drawScene();
        Due.is("swapScenes(" + one + ", " + other + ")", wall.swapScenes(one, other), model.swapScenes(one, other));
    }

    private void set() {
        int which = draw(3);
        int value = which == 0 ? draw(16) : which == 1 ? draw(hours) : draw(random.nextBoolean() ? 1002 : 50);
        Due.is("set(" + which + ", " + value + ")", wall.set(which, value), model.set(which, value));
    }

    /** Now and then, as these take back what was built. */
    private void restore() {
        if (random.nextInt(3) == 0) {
            Due.is("restore()", wall.restore(), model.restore());
        }
    }

    private void undo() {
        for (int i = random.nextInt(6); i > 3; i--) {
            Due.is("undo()", wall.undo(), model.undo());
        }
    }

    private void actOn(String call, int argument) {
        int got;
        int want;
        switch (call) {
            case "straighten": got = wall.straighten(argument); want = model.straighten(argument); break;
            case "insertScene": got = wall.insertScene(argument); want = model.insertScene(argument); break;
            default: got = wall.removeScene(argument); want = model.removeScene(argument); break;
        }
        Due.is(call + "(" + argument + ")", got, want);
    }

    private void ask() {
        int card = drawCard();
        int scene = drawScene();
        int what = draw(15);
        switch (random.nextInt(10)) {
            case 0: Due.is("card(" + card + ", " + what + ")", wall.card(card, what), model.card(card, what)); break;
            case 1: Due.is("at(" + scene + ", " + what + ")", wall.at(scene, what), model.at(scene, what)); break;
            case 2: askThread(draw(threads), draw(9)); break;
            case 3: askScene(scene, draw(8)); break;
            case 4: Due.isFloat("tension(" + scene + ")", wall.tension(scene), model.tension(scene)); break;
            case 5: Due.is("broken(" + what + ")", wall.broken(what), model.broken(what)); break;
            case 6: askWould(card, scene); break;
            case 7: Due.is("best(" + card + ")", wall.best(card), model.best(card)); break;
            case 8: Due.is("count(" + what + ")", wall.count(what), model.count(what)); break;
            default: Due.is("spanBits()", wall.spanBits(), model.spanBits()); break;
        }
    }

    private void askThread(int thread, int what) {
        Due.is("thread(" + thread + ", " + what + ")", wall.thread(thread, what), model.thread(thread, what));
    }

    private void askScene(int scene, int what) {
        Due.is("scene(" + scene + ", " + what + ")", wall.scene(scene, what), model.scene(scene, what));
    }

    private void askWould(int card, int scene) {
        int place = draw(1 + Math.max(0, model.scene(scene, 0)));
        Due.is("would(" + card + ", " + scene + ", " + place + ")",
                wall.would(card, scene, place), model.would(card, scene, place));
    }
}
