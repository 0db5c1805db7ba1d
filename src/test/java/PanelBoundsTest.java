import java.util.Arrays;

/** The sentences of the document that name bounds of scores: promises 14 to 16. */
public final class PanelBoundsTest {
    public static void main(String[] args) {
        Due due = new Due("bounds of panels");
        score(due);
        scoresOfLots(due);
        panel(due);
        middle(due);
        outliers(due);
        mark(due);
        ranked(due);
        equalMarks(due);
        due.end();
    }

    /** One lot that has these scores, by tasters. */
    private static VineyardBlends scored(int span, int... scores) {
        VineyardBlends x = Cellars.withLots(1);
        x.set(1, span);
        give(x, 0, scores);
        return x;
    }

    private static void give(VineyardBlends x, int lot, int... scores) {
        for (int taster = 0; taster < scores.length; taster++) {
            x.score(lot, taster, scores[taster]);
        }
    }

    private static void score(Due due) {
        due.sentence("Promise 14", "lot: number of the lot");
        due.lotNumber("score(?, 0, 100)", 1, v -> Cellars.withLotGone().score(v, 0, 100));
        due.lotNumber("score(?, 0, -1)", 0, v -> Cellars.withLotGone().score(v, 0, -1));
        due.sentence("Promise 14", "taster: 0 to 7");
        due.range("score(0, ?, 100)", 0, 1, 7, 1, v -> Cellars.withLotGone().score(0, v, 100));
        due.sentence("Promise 14", "value: 0 to 200, or -1 to take the score back");
        due.range("score(0, 0, ?)", -1, 0, 200, 1, v -> Cellars.withLotGone().score(0, 0, v));
        due.is("score(0, 0, 0)", Cellars.withLotGone().score(0, 0, 0), 1);
        due.sentence("Promise 14", "Panel", "There are 8 tasters, 0 to 7. A taster can give a lot a score (0 to 200).");
        VineyardBlends x = scored(200, 0, 0, 0, 0, 0, 0, 0, 200);
        due.is("scores", x.lot(0, 7), 8);
        due.is("200 / 8", x.panel(0, 4), 25);
        x.set(1, 199);
        due.is("the last taster alone", x.panel(0, 2), 128);
    }

    private static void scoresOfLots(Due due) {
        due.sentence("Promise 14", "Gives a lot a score, in place of what this taster gave it before.");
        VineyardBlends x = Cellars.withLots(2);
        due.is("the first", x.score(0, 3, 200), 1);
        due.is("in its place", x.score(0, 3, 0), 1);
        due.is("the middle", x.panel(0, 0), 0);
        due.is("another lot has no score", x.lot(1, 7), 0);
        due.sentence("Promise 14", "Returns how many scores the lot has then");
        for (int taster = 0; taster < 8; taster++) {
            due.is("taster " + taster, x.score(1, taster, taster), taster + 1);
        }
        due.is("again", x.score(1, 7, 200), 8);
        for (int taster = 7; taster >= 0; taster--) {
            due.is("taken back by " + taster, x.score(1, taster, -1), taster);
        }
        due.is("nothing to take back", x.score(1, 0, -1), 0);
        due.is("lots with scores", x.count(11), 1);
    }

    private static void panel(Due due) {
        due.sentence("Promise 15", "lot: number of the lot");
        due.lotNumber("panel(?, 0)", 70, v -> {
            VineyardBlends x = Cellars.withLotGone();
            x.score(0, 5, 70);
            return x.panel(v, 0);
        });
        due.sentence("Promise 15", "what: 0: the middle; 1: how many are no outliers; 2: the tasters whose scores are outliers, as a bit mask; "
                + "3: the bits of the mark, as Float.floatToIntBits gives them; 4: the mark, cast to int");
        due.range("panel(0, ?)", 0, 60, 4, 60, v -> scored(40, 60).panel(0, v));
        int[] all = {60, 2, 4, Float.floatToIntBits(57.5f), 57};
        for (int what = 0; what < 5; what++) {
            due.is("panel(0, " + what + ")", scored(40, 55, 60, 101).panel(0, what), all[what]);
        }
        due.sentence("Promise 15", "NOT_FOUND if there is no such lot, or it has no scores");
        VineyardBlends x = Cellars.withLots(1);
        for (int what = 0; what < 5; what++) {
            due.is("no scores: panel(0, " + what + ")", x.panel(0, what), -4);
            due.is("no lot: panel(1, " + what + ")", x.panel(1, what), -4);
        }
        x.score(0, 0, 0);
        due.is("a score of 0", x.panel(0, 0), 0);
        x.score(0, 0, -1);
        due.is("taken back", x.panel(0, 0), -4);
    }

    private static void middle(Due due) {
        due.sentence("Promise 15", "Panel", "The middle of the scores of a lot is, of all in ascending order, "
                + "the one at the place (how many there are - 1) / 2, counted from 0.");
        int[][] cases = {
            {7, 7}, {10, 20, 10}, {20, 10, 10}, {30, 10, 20, 20}, {4, 3, 2, 1, 2}, {5, 4, 3, 2, 1, 3}, {6, 5, 4, 3, 2, 1, 3},
            {7, 6, 5, 4, 3, 2, 1, 4}, {8, 7, 6, 5, 4, 3, 2, 1, 4}, {1, 2, 3, 4, 5, 6, 7, 8, 4}, {0, 200, 0}, {200, 200, 0, 200}
        };
        for (int[] each : cases) {
            int[] scores = Arrays.copyOf(each, each.length - 1);
            due.is("of " + Arrays.toString(scores), scored(40, scores).panel(0, 0), each[each.length - 1]);
        }
        VineyardBlends x = Cellars.withLots(1);
        x.score(0, 2, 90);
        x.score(0, 7, 10);
        due.is("of tasters 2 and 7", x.panel(0, 0), 10);
    }

    private static void outliers(Due due) {
        due.sentence("Promise 15", "Panel", "A score is an outlier if it differs from the middle by more than the setting span.");
        due.is("by the span", scored(40, 60, 100, 140).panel(0, 2), 0);
        due.is("by one more above", scored(40, 60, 100, 141).panel(0, 2), 4);
        due.is("by one more below", scored(40, 59, 100, 140).panel(0, 2), 1);
        due.is("by one more on both sides", scored(40, 59, 100, 141).panel(0, 1), 1);
        due.is("by the least span", scored(0, 99, 100, 101).panel(0, 2), 1 + 4);
        due.is("equal scores by the least span", scored(0, 100, 100, 100).panel(0, 2), 0);
        due.is("by the greatest span", scored(200, 0, 0, 200).panel(0, 2), 0);
        due.is("by one more than the span below the greatest", scored(199, 0, 0, 200).panel(0, 2), 4);
        due.is("a single score", scored(0, 200).panel(0, 1), 1);
        due.is("all but the middle", scored(0, 8, 7, 6, 5, 4, 3, 2, 1).panel(0, 2), 255 - 16);
        due.is("the initial span is 40", withSpan().panel(0, 2), 2);
        VineyardBlends two = withSpan();
        two.bring(1, 0, 2000, 0, 0, 0);
        two.score(1, 1, 141);
        due.is("outliers of lot 0", two.panel(0, 2), 2);
        due.is("none of lot 1", two.panel(1, 2), 0);
        due.is("two of lot 0 are none", two.panel(0, 1), 2);
        due.is("one of lot 1 is none", two.panel(1, 1), 1);
    }

    private static VineyardBlends withSpan() {
        VineyardBlends x = new VineyardBlends();
        x.bring(1, 0, 2000, 0, 0, 0);
        give(x, 0, 100, 141, 60);
        return x;
    }

    private static void mark(Due due) {
        due.sentence("Promise 15", "Panel", "The mark of a lot is (float) (sum of its scores that are no outliers) / (float) (how many these are).");
        int[][] cases = {
            {0}, {1}, {200}, {0, 0, 0, 0, 0, 0, 0, 1}, {0, 0, 1}, {1, 1, 0}, {200, 200, 199}, {128, 127}, {127, 128, 128},
            {200, 200, 200, 200, 200, 200, 200, 199}, {1, 0, 0, 0, 0, 0, 0}, {3, 3, 3, 3, 3, 3, 4}, {64, 63, 64, 64, 64}
        };
        for (int[] scores : cases) {
            int sum = 0;
            for (int score : scores) {
                sum += score;
            }
            float mark = (float) sum / (float) scores.length;
            String name = Arrays.toString(scores);
            due.is("bits of " + name, scored(200, scores).panel(0, 3), Float.floatToIntBits(mark));
            due.is("int of " + name, scored(200, scores).panel(0, 4), (int) mark);
        }
        due.is("the least mark's bits", scored(40, 0).panel(0, 3), 0);
        due.is("the greatest mark's bits", scored(40, 200).panel(0, 3), 0x43480000);
        due.is("a third's bits", scored(40, 0, 0, 1).panel(0, 3), 0x3eaaaaab);
        due.is("an eighth's bits", scored(40, 0, 0, 0, 0, 0, 0, 0, 1).panel(0, 3), 0x3e000000);
        due.is("outliers are left out", scored(10, 100, 101, 200, 0, 90).panel(0, 3), Float.floatToIntBits(291f / 3f));
        due.is("199.875 cast to int", scored(40, 200, 200, 200, 200, 200, 200, 200, 199).panel(0, 4), 199);
    }

    private static void ranked(Due due) {
        due.sentence("Promise 16", "place: 0 for the best one, and so on");
        VineyardBlends x = Cellars.fullOfLots();
        for (int lot = 0; lot < 12; lot++) {
            x.score(lot, 0, 5 * lot);
        }
        for (int place = 0; place < 12; place++) {
            due.is("ranked(" + place + ")", x.ranked(place), 11 - place);
        }
        due.sentence("Promise 16", "INVALID_ARGUMENT if place is negative");
        due.is("ranked(-1)", x.ranked(-1), -1);
        due.is("ranked(MIN)", x.ranked(Integer.MIN_VALUE), -1);
        due.sentence("Promise 16", "NOT_FOUND if there are not so many");
        due.is("ranked(12)", x.ranked(12), -4);
        due.is("ranked(MAX)", x.ranked(Integer.MAX_VALUE), -4);
        due.is("no lots", new VineyardBlends().ranked(0), -4);
        due.is("no scores", Cellars.withLots(2).ranked(0), -4);
        due.is("one score: ranked(0)", scored(40, 0).ranked(0), 0);
        due.is("one score: ranked(1)", scored(40, 0).ranked(1), -4);
        due.sentence("Promise 16", "Panel", "The ranking has all lots with scores");
        x.score(11, 0, -1);
        due.is("a score taken back", x.ranked(0), 10);
        x.bottle(10, 10, 100);
        due.is("a lot that is gone", x.ranked(0), 9);
        due.is("the last one", x.ranked(9), 0);
        due.is("no more", x.ranked(10), -4);
    }

    private static void equalMarks(Due due) {
        due.sentence("Promise 16", "Panel", "by descending marks, those with equal marks by ascending numbers");
        VineyardBlends x = Cellars.withLots(6);
        give(x, 5, 70, 80);
        give(x, 4, 75);
        give(x, 3, 74, 75, 75);
        give(x, 2, 75, 75, 75, 200);
        give(x, 1, 75, 75, 76);
        give(x, 0, 0);
        int[] order = {1, 2, 4, 5, 3, 0};
        for (int place = 0; place < 6; place++) {
            due.is("ranked(" + place + ")", x.ranked(place), order[place]);
        }
        VineyardBlends y = Cellars.fullOfLots();
        for (int lot = 11; lot >= 0; lot--) {
            y.score(lot, lot % 8, 0);
        }
        for (int place = 0; place < 12; place++) {
            due.is("all 0: ranked(" + place + ")", y.ranked(place), place);
        }
    }
}
