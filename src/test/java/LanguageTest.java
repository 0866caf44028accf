import java.lang.reflect.Constructor;
import java.lang.reflect.Field;
import java.lang.reflect.InvocationTargetException;
import java.lang.reflect.Method;
import java.lang.reflect.Modifier;
import java.nio.file.Path;
import java.util.ArrayList;
import java.util.Arrays;
import java.util.IdentityHashMap;
import java.util.List;
import java.util.Map;
import java.util.Set;
import java.util.TreeSet;
import java.util.function.Supplier;

/** What can be seen of LANGUAGE.md: the face, the words of the source, and what a run makes. */
public final class LanguageTest {
    private static final List<String> FACE = List.of(
            "int add(int,int,int,int)", "int addAll()", "int change(int,int,int)", "int pin(int,int,int)",
            "int unpin(int)", "int swap(int,int)", "int straighten(int)", "int insertScene(int)",
            "int removeScene(int)", "int swapScenes(int,int)", "int set(int,int)", "int type(char)",
            "int clearText()", "int undo()", "int keep()", "int restore()", "int card(int,int)", "int at(int,int)",
            "int thread(int,int)", "int scene(int,int)", "float tension(int)", "int broken(int)",
            "int would(int,int,int)", "int best(int)", "int count(int)", "int spanBits()");
    private static final List<String> CONSTANTS = List.of("BAD_VALUE", "FULL", "NONE", "NOT_POSSIBLE", "UNKNOWN");
    private static final int[] EDGES = {Integer.MIN_VALUE, -6, -5, -1, 0, 1, 5, 6, 15, 16, 39, 40, 96, Integer.MAX_VALUE};
    /** So many calls are made of one object. */
    private static final int CALLS = 400;

    private LanguageTest() {
    }

    public static void main(String[] args) throws Exception {
        face();
        SourceRules.look(Path.of(System.getProperty("storywall.source", "src/main/java/StoryWall.java")));
        neverThrows();
        sameAnswers();
        room();
        Due.tell("LanguageTest");
    }

    private static boolean isHidden(int modifiers) {
        return Modifier.isPrivate(modifiers);
    }

    private static void face() {
        Due.part("rule 1");
        Due.is("modifiers", StoryWall.class.getModifiers(), Modifier.PUBLIC | Modifier.FINAL);
        Set<String> shown = new TreeSet<>();
        Set<String> names = new TreeSet<>();
        Set<String> hidden = new TreeSet<>();
        for (Method method : StoryWall.class.getDeclaredMethods()) {
            if (isHidden(method.getModifiers())) {
                hidden.add(method.getName());
            } else {
                List<String> types = new ArrayList<>();
                for (Class<?> type : method.getParameterTypes()) {
                    types.add(type.getName());
                }
                shown.add(method.getReturnType() + " " + method.getName() + "(" + String.join(",", types) + ")");
                names.add(method.getName());
                Due.holds(method.getName() + " is public", Modifier.isPublic(method.getModifiers()));
            }
        }
        Due.holds("methods " + shown, shown.equals(new TreeSet<>(FACE)));
        hidden.retainAll(names);
        Due.holds("private ones of the same name " + hidden, hidden.isEmpty());
        Set<String> constants = new TreeSet<>();
        for (Field field : StoryWall.class.getDeclaredFields()) {
            if (!isHidden(field.getModifiers())) {
                constants.add(field.getName());
            }
        }
        Due.holds("constants " + constants, constants.equals(new TreeSet<>(CONSTANTS)));
        Constructor<?>[] constructors = StoryWall.class.getDeclaredConstructors();
        Due.is("constructors", constructors.length, 1);
    }

    /** Every call with every mix of edges, on walls that these calls change as they go. */
    private static void neverThrows() throws Exception {
        List<Supplier<StoryWall>> makers = List.of(StoryWall::new, Walls::rich, Walls::full);
        for (Method method : StoryWall.class.getDeclaredMethods()) {
            if (isHidden(method.getModifiers())) {
                continue;
            }
            Due.part("rule 7, " + method.getName() + "()");
            for (Supplier<StoryWall> maker : makers) {
                callWithEdges(method, maker);
            }
        }
    }

    private static void callWithEdges(Method method, Supplier<StoryWall> maker) throws Exception {
        Class<?>[] types = method.getParameterTypes();
        StoryWall wall = maker.get();
        int mixes = 1;
        for (int i = 0; i < types.length; i++) {
            mixes *= EDGES.length;
        }
        for (int mix = 0; mix < mixes; mix++) {
            if (mix % CALLS == 0) {
                wall = maker.get();
            }
            Object[] arguments = new Object[types.length];
            int left = mix;
            for (int i = 0; i < types.length; i++) {
                int edge = EDGES[left % EDGES.length];
                left /= EDGES.length;
                arguments[i] = types[i] == char.class ? (Object) (char) edge : (Object) edge;
            }
            try {
                method.invoke(wall, arguments);
                Due.holds("no throw", true);
            } catch (InvocationTargetException e) {
                Due.holds("no " + e.getCause() + " for " + Arrays.toString(arguments), false);
            }
        }
    }

    private static void sameAnswers() {
        Due.part("rule 13");
        Due.same("the same calls", Told.all(Walls::rich), Told.all(Walls::rich));
    }

    /** Counts the objects and elements that are reached from one; two numbers. */
    private static long[] size(Object root) throws Exception {
        Map<Object, Boolean> seen = new IdentityHashMap<>();
        List<Object> open = new ArrayList<>();
        open.add(root);
        seen.put(root, true);
        long elements = 0;
        while (!open.isEmpty()) {
            Object one = open.remove(open.size() - 1);
            List<Object> parts = new ArrayList<>();
            if (one.getClass().isArray()) {
                elements += java.lang.reflect.Array.getLength(one);
                if (one instanceof Object[]) {
                    parts.addAll(Arrays.asList((Object[]) one));
                }
            } else {
                for (Field field : one.getClass().getDeclaredFields()) {
                    if (!Modifier.isStatic(field.getModifiers())) {
                        elements++;
                        field.setAccessible(true);
                        if (!field.getType().isPrimitive()) {
                            parts.add(field.get(one));
                        }
                    }
                }
            }
            for (Object part : parts) {
                if (part != null && seen.put(part, true) == null) {
                    open.add(part);
                }
            }
        }
        return new long[] {seen.size(), elements};
    }

    private static void room() throws Exception {
        Due.part("the room");
        StoryWall wall = new StoryWall();
        long[] first = size(wall);
        for (int i = 0; i < 40; i++) {
            wall.add(i % 6, 1000 - i, 1, 1);
            wall.pin(i, i % 16, 0);
            wall.keep();
            wall.best(i);
            wall.restore();
        }
        long[] last = size(wall);
        Due.holds("objects " + first[0], first[0] < 100);
        Due.holds("elements " + first[1], first[1] < 5000);
        Due.is("objects later", last[0], first[0]);
        Due.is("elements later", last[1], first[1]);
    }
}
