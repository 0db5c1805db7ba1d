import java.io.OutputStream;
import java.io.PrintStream;
import java.util.Set;

/** No word of the document is without a test: runs the tests that name its sentences, and tells the words that none of them names. */
public final class SentencesTest {
    /** What a document has beside its sentences, and what it does not promise. */
    private static final Set<String> NO_SENTENCES = Set.of("VineyardBlends", "Not promised");
    private static final Set<String> NO_WORDS = Set.of("and", ", and", "text", ". Time, bottles");

    public static void main(String[] args) throws Exception {
        Due due = new Due("all sentences");
        runTests();
        Document document = new Document();
        if (!document.isThere()) {
            due.is("there is no document", 0, 0);
        }
        for (String heading : document.headings()) {
            if (!NO_SENTENCES.contains(heading)) {
                for (String piece : document.unnamed(heading)) {
                    due.is("in '" + heading + "', the test of '" + piece + "'", NO_WORDS.contains(piece) ? "there" : "missing", "there");
                }
                due.is("'" + heading + "' is read", 1, 1);
            }
        }
        due.end();
    }

    /** What they print stands where they are run for themselves; one that has a fault ends the program here too. */
    private static void runTests() throws Exception {
        PrintStream out = System.out;
        System.setOut(new PrintStream(OutputStream.nullOutputStream()));
        String[] none = {};
        FaceTest.main(none);
        LotBoundsTest.main(none);
        BlendBoundsTest.main(none);
        PanelBoundsTest.main(none);
        CellarBoundsTest.main(none);
        RuleBoundsTest.main(none);
        ErrorsTest.main(none);
        ChangesTest.main(none);
        WordsTest.main(none);
        System.setOut(out);
    }
}
