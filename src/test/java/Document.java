import java.io.IOException;
import java.nio.file.Files;
import java.nio.file.Path;
import java.util.HashMap;
import java.util.Map;

/**
 * The document's parts by their headings, to see that the sentences which tests name stand in it.
 * Where there is no document, each sentence is taken to stand in it: the answers are looked at all the same.
 */
final class Document {
    private static final Path PLACE = Path.of("..", "shared", "DOC.md");

    private final Map<String, String> parts = new HashMap<>();
    private final boolean isThere = Files.isReadable(PLACE);

    Document() {
        if (isThere) {
            divide();
        }
    }

    private void divide() {
        String heading = "";
        StringBuilder part = new StringBuilder();
        for (String line : lines()) {
            if (line.startsWith("#")) {
                parts.put(heading, plain(part.toString()));
                heading = plain(line).replaceFirst("^#+ ", "").replaceFirst(":.*", "");
                part.setLength(0);
            } else {
                part.append(line).append(' ');
            }
        }
        parts.put(heading, plain(part.toString()));
    }

    boolean says(String heading, String words) {
        return !isThere || parts.getOrDefault(heading, "").contains(plain(words));
    }

    private static Iterable<String> lines() {
        try {
            return Files.readAllLines(PLACE);
        } catch (IOException e) {
            throw new IllegalStateException("no reading of " + PLACE, e);
        }
    }

    /** Without signs of code, and with one blank between words. */
    private static String plain(String text) {
        return text.replace("`", "").replaceAll("\\s+", " ").trim();
    }
}
