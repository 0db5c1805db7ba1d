import java.util.function.IntToLongFunction;

/** Counts and prints the answers that are not the ones that are due. */
final class Due {
    private final String test;
    private final Document document = new Document();
    private String about;
    private int looked = 0;
    private int lookedBefore = 0;
    private int wrong = 0;
    private int sentences = 0;

    Due(String name) {
        test = name;
        about = name;
    }

    /** The answers from here on are about a sentence that stands under the heading of its promise. */
    void sentence(String promise, String words) {
        sentence(promise, promise, words);
    }

    /** The answers from here on are about a sentence of a promise that stands under another heading. */
    void sentence(String promise, String heading, String words) {
        sentenceHasAnswers();
        about = promise + ", '" + words + "'";
        lookedBefore = looked;
        sentences++;
        if (!document.says(heading, words)) {
            fault("does not stand in the document under '" + heading + "'");
        }
    }

    private void sentenceHasAnswers() {
        if (sentences > 0 && looked == lookedBefore) {
            fault("is not tested");
        }
    }

    private void fault(String what) {
        wrong++;
        System.out.println(about + ": " + what);
    }

    void is(String call, long got, long want) {
        looked++;
        if (got != want) {
            fault(call + " answered " + got + ", due is " + want);
        }
    }

    void is(String what, String got, String want) {
        looked++;
        if (!got.equals(want)) {
            fault(what + " is\n  " + got + "\ndue is\n  " + want);
        }
    }

    /** Both ends of a range are taken, and what lies beyond them is not; the call makes its own cellar. */
    void range(String call, int least, long atLeast, int greatest, long atGreatest, IntToLongFunction answer) {
        is(call + " with " + least, answer.applyAsLong(least), atLeast);
        is(call + " with " + greatest, answer.applyAsLong(greatest), atGreatest);
        for (int beyond : new int[] {least - 1, greatest + 1, Integer.MIN_VALUE, Integer.MAX_VALUE}) {
            is(call + " with " + beyond, answer.applyAsLong(beyond), -1);
        }
    }

    /** In a cellar with lot 0 alone, where lot 1 is gone and no lot 2 has come. */
    void lotNumber(String call, long ofLot, IntToLongFunction answer) {
        is(call + " of lot 0", answer.applyAsLong(0), ofLot);
        is(call + " of a lot that is gone", answer.applyAsLong(1), -4);
        is(call + " of a lot that has not come yet", answer.applyAsLong(2), -4);
        is(call + " of the greatest number", answer.applyAsLong(Integer.MAX_VALUE), -4);
        is(call + " of -1", answer.applyAsLong(-1), -1);
        is(call + " of the least number", answer.applyAsLong(Integer.MIN_VALUE), -1);
    }

    /** Ends the test: with exit code 1 if an answer was wrong, or if nothing was looked at. */
    void end() {
        sentenceHasAnswers();
        String said = sentences > 0 ? sentences + " sentences, " : "";
        System.out.println(test + ": " + said + looked + " answers, " + wrong + " faults");
        if (wrong != 0 || looked == 0) {
            System.exit(1);
        }
    }
}
