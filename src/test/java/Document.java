import java.io.IOException;
import java.nio.file.Files;
import java.nio.file.Path;
import java.util.ArrayList;
import java.util.Arrays;
import java.util.LinkedHashMap;
import java.util.List;
import java.util.Map;

/**
 * The document's parts by their headings, to see that the sentences which tests name stand in it.
 * Where there is no document, each sentence is taken to stand in it: the answers are looked at all the same.
 */
final class Document {
    private static final Path PLACE = Path.of("..", "shared", "DOC.md");
    /** All sentences that tests have named since the program began, each behind its heading. */
    private static final List<String[]> NAMED = new ArrayList<>();

    private final Map<String, String> parts = new LinkedHashMap<>();
    private final boolean isThere = Files.isReadable(PLACE);

    Document() {
        if (isThere) {
            divide();
        }
    }

    private void divide() {
        String heading = "";
        StringBuilder part = new StringBuilder();
        for (String line : lines()) {
            if (line.startsWith("#")) {
                parts.put(heading, plain(part.toString()));
                heading = plain(line).replaceFirst("^#+ ", "").replaceFirst(":.*", "");
                part.setLength(0);
            } else {
                part.append(line).append(' ');
            }
        }
        parts.put(heading, plain(part.toString()));
    }

    boolean isThere() {
        return isThere;
    }

    Iterable<String> headings() {
        return parts.keySet();
    }

    boolean says(String heading, String words) {
        NAMED.add(new String[] {heading, plain(words)});
        return !isThere || parts.getOrDefault(heading, "").contains(plain(words));
    }

    /** The pieces of a part that no test has named. */
    List<String> unnamed(String heading) {
        String part = parts.getOrDefault(heading, "");
        boolean[] isNamed = new boolean[part.length()];
        for (String[] each : NAMED) {
            int place = each[0].equals(heading) ? part.indexOf(each[1]) : -1;
            while (place >= 0) {
                Arrays.fill(isNamed, place, place + each[1].length(), true);
                place = part.indexOf(each[1], place + 1);
            }
        }
        return pieces(part, isNamed);
    }

    private static List<String> pieces(String part, boolean[] isNamed) {
        List<String> pieces = new ArrayList<>();
        int start = 0;
        for (int i = 0; i <= part.length(); i++) {
            if (i == part.length() || isNamed[i]) {
                String piece = part.substring(start, i);
                if (piece.matches(".*[A-Za-z0-9].*")) {
                    pieces.add(piece.trim());
                }
                start = i + 1;
            }
        }
        return pieces;
    }

    private static Iterable<String> lines() {
        try {
            return Files.readAllLines(PLACE);
        } catch (IOException e) {
            throw new IllegalStateException("no reading of " + PLACE, e);
        }
    }

    /** Without signs of code, and with one blank between words. */
    private static String plain(String text) {
        return text.replace("`", "").replaceAll("\\s+", " ").trim();
    }
}
