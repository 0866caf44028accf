import java.io.File;
import java.lang.reflect.Method;
import java.lang.reflect.Modifier;
import java.net.URL;
import java.net.URLClassLoader;
import java.nio.file.Files;
import java.nio.file.Path;
import java.util.ArrayList;
import java.util.List;
import java.util.function.Supplier;
import java.util.regex.Matcher;
import java.util.regex.Pattern;
import javax.tools.ToolProvider;

/** The program of README.md: it is compiled, and each call answers what stands behind it. */
public final class ReadmeTest {
    private static final Pattern BLOCK = Pattern.compile("```java\n(.*?)```", Pattern.DOTALL);
    /** An answer is told behind the call; a name may be given to it. */
    private static final Pattern CALL = Pattern.compile("(?:int (\\w+) = )?(wall\\..*);\\s+// (-?\\d+(?:\\.\\d+f)?)(?::.*)?");

    private final List<String> calls = new ArrayList<>();
    private final List<String> answers = new ArrayList<>();

    private ReadmeTest() {
    }

    public static void main(String[] args) throws Exception {
        String readme = Files.readString(Path.of(System.getProperty("storywall.readme", "README.md")));
        Due.part("README.md");
        Matcher block = BLOCK.matcher(readme);
        Due.holds("it has a program", block.find());
        new ReadmeTest().run(block.group(1));
        namesEachCall(readme);
        Due.tell("ReadmeTest");
    }

    private void run(String program) throws Exception {
        List<Object> got = told(source(program));
        Due.is("answers", got.size(), answers.size());
        for (int i = 0; i < got.size(); i++) {
            String answer = answers.get(i).replace("f", "");
            Due.same(calls.get(i), got.get(i).toString(), answer);
        }
    }

    private String source(String program) {
        StringBuilder source = new StringBuilder("public final class Readme "
                + "implements java.util.function.Supplier<java.util.List<Object>> {\n"
                + "public java.util.List<Object> get() {\n"
                + "java.util.List<Object> answers = new java.util.ArrayList<>();\n");
        for (String line : program.split("\n")) {
            Matcher call = CALL.matcher(line);
            if (!call.matches()) {
                Due.holds("an answer behind " + line, line.indexOf("//") <= 0);
                source.append(line).append('\n');
                continue;
            }
            calls.add(call.group(2));
            answers.add(call.group(3));
            String name = call.group(1) == null ? "answer" + calls.size() : call.group(1);
            source.append("var ").append(name).append(" = ").append(call.group(2)).append(";\n")
                    .append("answers.add(").append(name).append(");\n");
        }
        return source.append("return answers;\n}\n}\n").toString();
    }

    /** The program is compiled into a folder of its own, against the classes of this test. */
    private static List<Object> told(String source) throws Exception {
        Path folder = Files.createTempDirectory("readme");
        File file = folder.resolve("Readme.java").toFile();
        File compiled = folder.resolve("Readme.class").toFile();
        try {
            Files.writeString(file.toPath(), source);
            int code = ToolProvider.getSystemJavaCompiler().run(null, null, null, "-d", folder.toString(),
                    "-cp", System.getProperty("java.class.path"), file.toString());
            Due.is("it compiles", code, 0);
            return code == 0 ? answersOf(folder) : List.of();
        } finally {
            file.delete();
            compiled.delete();
            folder.toFile().delete();
        }
    }

    @SuppressWarnings("unchecked")
    private static List<Object> answersOf(Path folder) throws Exception {
        URL[] place = {folder.toUri().toURL()};
        try (URLClassLoader loader = new URLClassLoader(place, ReadmeTest.class.getClassLoader())) {
            Object program = loader.loadClass("Readme").getDeclaredConstructor().newInstance();
            return ((Supplier<List<Object>>) program).get();
        }
    }

    private static void namesEachCall(String readme) {
        for (Method method : StoryWall.class.getDeclaredMethods()) {
            if (Modifier.isPublic(method.getModifiers())) {
                Due.holds("it names " + method.getName() + "()", readme.contains("`" + method.getName() + "()`"));
            }
        }
    }
}
