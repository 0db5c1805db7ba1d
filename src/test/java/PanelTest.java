/** Promises 14 to 16: score, panel, ranked. */
public final class PanelTest {
    public static void main(String[] args) {
        Due due = new Due("panel");
        score(due);
        panel(due);
        middle(due);
        outliers(due);
        marks(due);
        ranked(due);
        due.end();
    }

    private static VineyardBlends withLots(int lots) {
        VineyardBlends x = new VineyardBlends();
        for (int i = 0; i < lots; i++) {
            x.bring(10, 0, 2000, 0, 0, 0);
        }
        return x;
    }

    private static void scores(VineyardBlends x, int lot, int... values) {
        for (int i = 0; i < values.length; i++) {
            x.score(lot, i, values[i]);
        }
    }

    private static void score(Due due) {
        VineyardBlends x = withLots(1);
        due.is("score(-1, 0, 0)", x.score(-1, 0, 0), -1);
        due.is("score(0, -1, 0)", x.score(0, -1, 0), -1);
        due.is("score(0, 8, 0)", x.score(0, 8, 0), -1);
        due.is("score(0, 0, -2)", x.score(0, 0, -2), -1);
        due.is("score(0, 0, 201)", x.score(0, 0, 201), -1);
        due.is("score(1, 0, 201)", x.score(1, 0, 201), -1);
        due.is("score(1, 0, 200)", x.score(1, 0, 200), -4);
        due.is("errors are no states", x.count(12), 1);
        due.is("no scores", x.count(11), 0);
        due.is("a score of 0 is a score", x.score(0, 7, 0), 1);
        due.is("lots with scores", x.count(11), 1);
        due.is("another taster", x.score(0, 0, 200), 2);
        due.is("in place of the one before", x.score(0, 7, 30), 2);
        due.is("the middle", x.panel(0, 0), 30);
        due.is("taken back", x.score(0, 0, -1), 1);
        due.is("nothing to take back", x.score(0, 0, -1), 1);
        due.is("which is a change", x.count(12), 4);
        due.is("taken back", x.score(0, 7, -1), 0);
        due.is("lots with scores", x.count(11), 0);
        due.is("no panel", x.panel(0, 0), -4);
        x.undo();
        due.is("behind undo", x.panel(0, 0), 30);
        for (int i = 0; i < 8; i++) {
            x.score(0, i, 10 * i);
        }
        due.is("eight scores", x.lot(0, 7), 8);
    }

    private static void panel(Due due) {
        VineyardBlends x = withLots(2);
        due.is("no scores", x.panel(0, 0), -4);
        scores(x, 0, 100, 110, 190);
        due.is("panel(-1, 0)", x.panel(-1, 0), -1);
        due.is("panel(0, -1)", x.panel(0, -1), -1);
        due.is("panel(0, 5)", x.panel(0, 5), -1);
        due.is("panel(1, 5)", x.panel(1, 5), -1);
        due.is("panel(1, 4)", x.panel(1, 4), -4);
        due.is("panel(2, 4)", x.panel(2, 4), -4);
        int[] all = {110, 2, 4, Float.floatToIntBits(105f), 105};
        for (int what = 0; what < all.length; what++) {
            due.is("panel(0, " + what + ")", x.panel(0, what), all[what]);
        }
        x.bottle(0, 10, 100);
        due.is("a lot that is gone", x.panel(0, 0), -4);
        due.is("has no scores", x.count(11), 0);
    }

    private static void middle(Due due) {
        VineyardBlends x = withLots(1);
        int[] values = {90, 10, 70, 30, 50, 20, 80, 60};
        int[] middles = {90, 10, 70, 30, 50, 30, 50, 50};
        for (int i = 0; i < values.length; i++) {
            x.score(0, i, values[i]);
            due.is("the middle of " + (i + 1), x.panel(0, 0), middles[i]);
        }
    }

    private static void outliers(Due due) {
        VineyardBlends x = withLots(1);
        scores(x, 0, 100, 60, 140, 59, 141);
        due.is("by the span, or one more", x.panel(0, 2), 8 + 16);
        due.is("no outliers", x.panel(0, 1), 3);
        due.is("mark", x.panel(0, 4), 100);
        x.set(1, 41);
        due.is("a wider span", x.panel(0, 2), 0);
        x.set(1, 0);
        due.is("no span", x.panel(0, 2), 2 + 4 + 8 + 16);
        due.is("the middle alone", x.panel(0, 1), 1);
        x.score(0, 7, 0);
        due.is("the last taster", x.panel(0, 2), 1 + 4 + 8 + 16 + 128);
        due.is("the middle", x.panel(0, 0), 60);
        x.set(1, 200);
        due.is("the widest span", x.panel(0, 2), 0);
        due.is("500 / 6", x.panel(0, 4), 83);
    }

    private static void marks(Due due) {
        VineyardBlends x = withLots(1);
        x.set(1, 200);
        int calls = 0;
        for (int many = 1; many <= 8; many++) {
            for (int top : new int[] {0, 1, 2, 3, 99, 128, 199, 200}) {
                if (calls > 480 || many < 7 && top > 3) {
                    continue;
                }
                int sum = 0;
                for (int i = 0; i < many; i++) {
                    int value = top - i < 0 ? 0 : top - i;
                    sum += value;
                    x.score(0, i, value);
                    calls++;
                }
                float mark = (float) sum / (float) many;
                due.is("bits of " + sum + " / " + many, x.panel(0, 3), Float.floatToIntBits(mark));
                due.is("int of " + sum + " / " + many, x.panel(0, 4), (int) mark);
                calls += 2;
            }
        }
        VineyardBlends y = withLots(1);
        scores(y, 0, 0);
        due.is("bits of 0", y.panel(0, 3), 0);
        scores(y, 0, 200);
        due.is("bits of 200", y.panel(0, 3), 0x43480000);
        scores(y, 0, 1, 0, 0);
        due.is("bits of 1 / 3", y.panel(0, 3), 0x3eaaaaab);
    }

    private static void ranked(Due due) {
        VineyardBlends x = withLots(6);
        due.is("ranked(-1)", x.ranked(-1), -1);
        due.is("ranked(0)", x.ranked(0), -4);
        scores(x, 1, 50);
        scores(x, 2, 0);
        scores(x, 3, 50, 51);
        scores(x, 4, 40, 60);
        int[] order = {3, 1, 4, 2, -4};
        for (int i = 0; i < order.length; i++) {
            due.is("ranked(" + i + ")", x.ranked(i), order[i]);
        }
        due.is("ranked(MAX)", x.ranked(Integer.MAX_VALUE), -4);
        due.is("lots with scores", x.count(11), 4);
        x.set(1, 0);
        due.is("without outliers 3 has 50 too, and 4 has 40", x.ranked(0), 1);
        due.is("equal marks", x.ranked(1), 3);
        due.is("then 4", x.ranked(2), 4);
        x.bottle(1, 10, 100);
        due.is("a lot that is gone", x.ranked(0), 3);
        due.is("is not in it", x.ranked(2), 2);
        due.is("so there are three", x.ranked(3), -4);
        x.score(2, 0, 200);
        due.is("a new best one", x.ranked(0), 2);
        int states = x.count(12);
        x.ranked(0);
        due.is("no states", x.count(12), states);
    }
}
