/** Promises 1 to 8: a new object, bring, sweeten, move, lot, grain, share, bits. */
public final class LotsTest {
    public static void main(String[] args) {
        Due due = new Due("lots");
        newObject(due);
        bringRanges(due);
        bringLimits(due);
        bringMakesALot(due);
        sweeten(due);
        move(due);
        lot(due);
        grain(due);
        share(due);
        bits(due);
        due.end();
    }

    private static void newObject(Due due) {
        VineyardBlends x = new VineyardBlends();
        int[] counts = {0, 0, 0, 0, 0, 0, 0, 10, 40, 5, 0, 0, 0, 0};
        for (int i = 0; i < counts.length; i++) {
            due.is("new: count(" + i + ")", x.count(i), counts[i]);
        }
        for (int i = 0; i < 8; i++) {
            due.is("new: account(" + i + ")", x.account(i), 0);
        }
        due.is("new: undo", x.undo(), -2);
        due.is("new: lot(0, 0)", x.lot(0, 0), -4);
        due.is("new: rule(0, 0)", x.rule(0, 0), -4);
        due.is("new: ranked(0)", x.ranked(0), -4);
        due.is("new: mostLitres", x.mostLitres(), -2);
        due.is("new: blend", x.blend(1, 0), -2);
        due.is("new: fault(0)", x.fault(0), -4);
        due.is("new: clearText", x.clearText(), 0);
        VineyardBlends other = new VineyardBlends();
        other.bring(1, 0, 2000, 0, 0, 0);
        due.is("an object is no other object", x.count(0), 0);
    }

    private static void bringRanges(Due due) {
        VineyardBlends x = new VineyardBlends();
        int[] low = {1, 0, 2000, 0, 0, 0};
        int[] high = {10000, 7, 2063, 9, 2000, 200};
        for (int i = 0; i < 6; i++) {
            for (int wrong : new int[] {low[i] - 1, high[i] + 1, Integer.MIN_VALUE, Integer.MAX_VALUE}) {
                int[] a = low.clone();
                a[i] = wrong;
                due.is("bring with argument " + i + " as " + wrong, x.bring(a[0], a[1], a[2], a[3], a[4], a[5]), -1);
            }
        }
        due.is("errors bring nothing", x.count(0), 0);
        due.is("errors give no number", x.count(6), 0);
        due.is("errors leave no state", x.count(12), 0);
        due.is("bring with the least arguments", x.bring(1, 0, 2000, 0, 0, 0), 0);
        due.is("bring with the greatest arguments", x.bring(10000, 7, 2063, 9, 2000, 200), 1);
    }

    private static void bringLimits(Due due) {
        VineyardBlends x = new VineyardBlends();
        for (int i = 0; i < 6; i++) {
            due.is("bring " + i, x.bring(10, 0, 2000, 0, 0, 0), i);
        }
        due.is("a seventh lot in steel", x.bring(10, 0, 2000, 0, 0, 0), -3);
        due.is("a wrong argument comes ahead of the limit", x.bring(0, 0, 2000, 0, 0, 0), -1);
        due.is("the limit changes nothing", x.count(6), 6);
        for (int i = 0; i < 6; i++) {
            due.is("move to oak", x.move(i, 1), i + 1);
            due.is("bring in its place", x.bring(10, 0, 2000, 0, 0, 0), 6 + i);
        }
        due.is("a thirteenth lot", x.bring(10, 0, 2000, 0, 0, 0), -3);
        due.is("bottled", x.bottle(8, 10, 100), 10);
        due.is("a lot for the one that is gone", x.bring(10, 0, 2000, 0, 0, 0), 12);

        VineyardBlends full = Cellars.fullOfGrains();
        due.is("200 grains", full.count(3), 200);
        due.is("10 lots", full.count(0), 10);
        due.is("4 in steel", full.count(1), 4);
        due.is("a grain too many", full.bring(1, 0, 2000, 0, 0, 0), -3);
        due.is("a lot goes", full.bottle(full.count(6) - 1, 200, 100), 200);
        due.is("180 grains", full.count(3), 180);
        due.is("a grain more", full.bring(1, 0, 2000, 0, 0, 0), full.count(6) - 1);
        due.is("181 grains", full.count(3), 181);
    }

    private static void bringMakesALot(Due due) {
        VineyardBlends x = new VineyardBlends();
        x.bring(123, 5, 2017, 8, 1234, 56);
        int[] lot = {123, 1, 1234, 56, 0, 0, 0, 0, 0};
        for (int i = 0; i < lot.length; i++) {
            due.is("lot(0, " + i + ")", x.lot(0, i), lot[i]);
        }
        int[] grain = {5, 2017, 8, 123};
        for (int i = 0; i < grain.length; i++) {
            due.is("grain(0, 0, " + i + ")", x.grain(0, 0, i), grain[i]);
        }
        due.is("brought", x.account(0), 123);
        x.bring(77, 5, 2017, 8, 1234, 56);
        due.is("the same wine is another lot", x.count(0), 2);
        due.is("brought in all", x.account(0), 200);
        due.is("left in all", x.account(4), 200);
        x.bottle(0, 123, 100);
        due.is("a number is not given again", x.bring(1, 0, 2000, 0, 0, 0), 2);
        x.undo();
        due.is("but behind undo", x.bring(1, 0, 2000, 0, 0, 0), 2);
    }

    private static void sweeten(Due due) {
        VineyardBlends x = new VineyardBlends();
        due.is("sweeten no lot", x.sweeten(0, 0), -4);
        x.bring(10, 0, 2000, 0, 0, 0);
        due.is("sweeten(-1, 0)", x.sweeten(-1, 0), -1);
        due.is("sweeten(0, -1)", x.sweeten(0, -1), -1);
        due.is("sweeten(0, 501)", x.sweeten(0, 501), -1);
        due.is("sweeten(1, 501)", x.sweeten(1, 501), -1);
        due.is("sweeten(1, 500)", x.sweeten(1, 500), -4);
        due.is("errors are no states", x.count(12), 1);
        due.is("sweeten(0, 500)", x.sweeten(0, 500), 0);
        due.is("sugar", x.lot(0, 4), 500);
        due.is("sweeten(0, 7)", x.sweeten(0, 7), 500);
        due.is("sweeten(0, 0)", x.sweeten(0, 0), 7);
        due.is("sugar", x.lot(0, 4), 0);
        due.is("each is a change", x.count(12), 4);
        x.undo();
        due.is("sugar behind undo", x.lot(0, 4), 7);
    }

    private static void move(Due due) {
        VineyardBlends x = new VineyardBlends();
        due.is("move no lot", x.move(0, 1), -4);
        for (int i = 0; i < 6; i++) {
            x.bring(10, 0, 2000, 0, 0, 0);
        }
        due.is("move(-1, 1)", x.move(-1, 1), -1);
        due.is("move(0, -1)", x.move(0, -1), -1);
        due.is("move(0, 2)", x.move(0, 2), -1);
        due.is("move(9, 2)", x.move(9, 2), -1);
        due.is("move(9, 0)", x.move(9, 0), -4);
        due.is("it is there already, and there are 6", x.move(0, 0), -2);
        due.is("move(0, 1)", x.move(0, 1), 1);
        due.is("kind", x.lot(0, 5), 1);
        due.is("it is there already", x.move(0, 1), -2);
        x.bring(10, 0, 2000, 0, 0, 0);
        due.is("6 are there", x.move(0, 0), -3);
        due.is("kind", x.lot(0, 5), 1);
        due.is("move(3, 1)", x.move(3, 1), 2);
        due.is("move(0, 0)", x.move(0, 0), 6);
        due.is("kind", x.lot(0, 5), 0);
        due.is("in steel", x.count(1), 6);
        due.is("in oak", x.count(2), 1);
        int states = x.count(12);
        x.move(0, 0);
        due.is("errors are no states", x.count(12), states);
        x.undo();
        due.is("kind behind undo", x.lot(0, 5), 1);
        for (int i = 1; i < 6; i++) {
            x.move(i, 1);
        }
        due.is("in oak", x.count(2), 6);
        due.is("6 are in oak", x.move(6, 1), -3);
    }

    private static void lot(Due due) {
        VineyardBlends x = new VineyardBlends();
        x.bring(100, 1, 2001, 1, 1100, 40);
        x.bring(50, 2, 2002, 2, 1000, 60);
        x.sweeten(0, 30);
        x.move(0, 1);
        x.score(0, 3, 0);
        x.score(0, 7, 200);
        x.recipe(0, 20);
        Cellars.rules(x, "origin 1 most 99;acid least 41;sugar most 30;sugar most 29;");
        int[] lot = {100, 1, 1100, 40, 30, 1, 1 + 2 + 8, 2, 20};
        for (int i = 0; i < lot.length; i++) {
            due.is("lot(0, " + i + ")", x.lot(0, i), lot[i]);
        }
        due.is("lot(1, 6)", x.lot(1, 6), 0);
        due.is("lot(1, 7)", x.lot(1, 7), 0);
        due.is("lot(1, 8)", x.lot(1, 8), 0);
        due.is("lot(-1, 0)", x.lot(-1, 0), -1);
        due.is("lot(0, -1)", x.lot(0, -1), -1);
        due.is("lot(0, 9)", x.lot(0, 9), -1);
        due.is("lot(2, 9)", x.lot(2, 9), -1);
        due.is("lot(2, 8)", x.lot(2, 8), -4);
        due.is("lot(MAX, 0)", x.lot(Integer.MAX_VALUE, 0), -4);
        due.is("lot(MIN, 0)", x.lot(Integer.MIN_VALUE, 0), -1);
        x.bottle(1, 50, 100);
        due.is("a lot that is gone", x.lot(1, 0), -4);
    }

    private static void grain(Due due) {
        VineyardBlends x = new VineyardBlends();
        x.set(0, 0);
        x.bring(10, 3, 2010, 5, 0, 0);
        x.bring(10, 3, 2009, 7, 0, 0);
        x.bring(10, 2, 2063, 9, 0, 0);
        x.bring(10, 3, 2010, 4, 0, 0);
        x.bring(10, 3, 2010, 5, 0, 0);
        for (int i = 0; i < 5; i++) {
            x.recipe(i, 1);
        }
        due.is("blend", x.blend(50, 1), 5);
        int[][] grains = {{2, 2063, 9, 10}, {3, 2009, 7, 10}, {3, 2010, 4, 10}, {3, 2010, 5, 20}};
        due.is("grains", x.lot(5, 1), 4);
        for (int i = 0; i < 4; i++) {
            for (int what = 0; what < 4; what++) {
                due.is("grain(5, " + i + ", " + what + ")", x.grain(5, i, what), grains[i][what]);
            }
        }
        due.is("grain(5, 4, 0)", x.grain(5, 4, 0), -4);
        due.is("grain(5, MAX, 0)", x.grain(5, Integer.MAX_VALUE, 0), -4);
        due.is("grain(6, 0, 0)", x.grain(6, 0, 0), -4);
        due.is("grain(0, 0, 0)", x.grain(0, 0, 0), -4);
        due.is("grain(-1, 0, 0)", x.grain(-1, 0, 0), -1);
        due.is("grain(5, -1, 0)", x.grain(5, -1, 0), -1);
        due.is("grain(6, -1, 0)", x.grain(6, -1, 0), -1);
        due.is("grain(5, 0, -1)", x.grain(5, 0, -1), -1);
        due.is("grain(5, 0, 4)", x.grain(5, 0, 4), -1);
    }

    private static void share(Due due) {
        VineyardBlends x = new VineyardBlends();
        x.set(0, 0);
        x.bring(20, 0, 2000, 0, 0, 0);
        x.bring(20, 7, 2063, 9, 0, 0);
        x.bring(20, 7, 2000, 3, 0, 0);
        for (int i = 0; i < 3; i++) {
            x.recipe(i, 1);
        }
        x.blend(60, 1);
        due.is("origin 0", x.share(3, 0, 0), 33);
        due.is("origin 7", x.share(3, 0, 7), 66);
        due.is("origin 1", x.share(3, 0, 1), 0);
        due.is("year 2000", x.share(3, 1, 2000), 66);
        due.is("year 2063", x.share(3, 1, 2063), 33);
        due.is("year 2001", x.share(3, 1, 2001), 0);
        due.is("variety 0", x.share(3, 2, 0), 33);
        due.is("variety 9", x.share(3, 2, 9), 33);
        due.is("variety 8", x.share(3, 2, 8), 0);
        int[] low = {0, 2000, 0};
        int[] high = {7, 2063, 9};
        for (int what = 0; what < 3; what++) {
            due.is("share(3, " + what + ", below)", x.share(3, what, low[what] - 1), -1);
            due.is("share(3, " + what + ", above)", x.share(3, what, high[what] + 1), -1);
            due.is("share(9, " + what + ", above)", x.share(9, what, high[what] + 1), -1);
            due.is("share(9, " + what + ", high)", x.share(9, what, high[what]), -4);
        }
        due.is("share(-1, 0, 0)", x.share(-1, 0, 0), -1);
        due.is("share(3, -1, 0)", x.share(3, -1, 0), -1);
        due.is("share(3, 3, 0)", x.share(3, 3, 0), -1);
        due.is("share(0, 0, 0)", x.share(0, 0, 0), -4);
        x.bring(10000, 0, 2000, 0, 0, 0);
        due.is("all of it", x.share(4, 0, 0), 100);
    }

    private static void bits(Due due) {
        VineyardBlends x = new VineyardBlends();
        x.set(0, 0);
        x.bring(5, 0, 2007, 0, 0, 0);
        due.is("a year below 2008 falls out", x.bits(0), 1L << 56);
        x.bring(5, 1, 2008, 0, 0, 0);
        due.is("2008", x.bits(1), 1L | 1L << 57);
        x.bring(5, 7, 2063, 0, 0, 0);
        due.is("2063 and origin 7", x.bits(2), 1L << 55 | 1L << 63);
        for (int i = 0; i < 3; i++) {
            x.recipe(i, 1);
        }
        x.blend(15, 0);
        due.is("all of them", x.bits(3), 1L | 1L << 55 | 1L << 56 | 1L << 57 | 1L << 63);
        due.is("bits(-1)", x.bits(-1), -1);
        due.is("bits(0)", x.bits(0), -4);
        due.is("bits(4)", x.bits(4), -4);
    }
}
