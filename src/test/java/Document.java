import java.io.IOException;
import java.nio.file.Files;
import java.nio.file.Path;
import java.util.LinkedHashMap;
import java.util.Map;

/** The document by sections; the tests name its sentences, and each sentence is to be named by one. */
final class Document {
    private static final Path FILE = Path.of(System.getProperty("storywall.document", "../shared/DOC.md"));
    private static final Map<String, StringBuilder> TEXTS = new LinkedHashMap<>();
    private static final Map<String, boolean[]> NAMED = new LinkedHashMap<>();

    /** Calls as they are declared, and how they are grouped: nothing that a test could ask for. */
    private static final String NO_SENTENCE = "Ahead of the calls .*|---- .*|(\\w+ )?\\w+\\(.*\\):";

    /** Between two pieces, so that no quote reaches from a line into the next one. */
    private static final char BETWEEN = '\n';

    static {
        read();
    }

    private Document() {
    }

    private static void read() {
        if (!Files.exists(FILE)) {
            System.out.println("Document: no " + FILE + ", so the sentences are not looked up");
            return;
        }
        String section = "";
        try {
            for (String line : Files.readAllLines(FILE)) {
                if (line.startsWith("#")) {
                    section = line.replace("#", "").replaceAll(":.*", "").trim();
                } else if (line.matches("[A-Z ]+")) {
                    section = line;
                } else {
                    TEXTS.computeIfAbsent(section, s -> new StringBuilder()).append(plain(line)).append(BETWEEN);
                }
            }
        } catch (IOException e) {
            throw new IllegalStateException(e);
        }
        TEXTS.forEach((name, text) -> NAMED.put(name, new boolean[text.length()]));
    }

    private static String plain(String line) {
        return line.replace("`", "").replaceAll("^- ", "").trim();
    }

    /** Marks a quote as named; it has to stand in the section. */
    static void name(String section, String quote) {
        if (TEXTS.isEmpty()) {
            return;
        }
        int start = TEXTS.getOrDefault(section, new StringBuilder()).indexOf(plain(quote));
        Due.holds("the document says so in " + section, start >= 0);
        if (start >= 0) {
            java.util.Arrays.fill(NAMED.get(section), start, start + plain(quote).length(), true);
        }
    }

    /** Tells each sentence of the promises and of the terms that no test has named. */
    static void tellUnnamed() {
        TEXTS.forEach((section, text) -> {
            if (section.startsWith("Promise") || section.equals(section.toUpperCase())) {
                tellUnnamed(section, text.toString());
            }
        });
    }

    private static void tellUnnamed(String section, String text) {
        Due.part("a test names each sentence of " + section);
        int start = 0;
        for (String piece : text.split("(?<=[.:;] |" + BETWEEN + ")")) {
            boolean named = piece.isBlank() || piece.trim().matches(NO_SENTENCE);
            for (int index = start; index < start + piece.length() && !named; index++) {
                named = NAMED.get(section)[index];
            }
            Due.holds("\"" + piece.trim() + "\"", named);
            start += piece.length();
        }
    }
}
