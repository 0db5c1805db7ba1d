/** The sentences of the document that name bounds of lots: promises 1 to 8. */
public final class LotBoundsTest {
    public static void main(String[] args) {
        Due due = new Due("bounds of lots");
        newCellar(due);
        bring(due);
        bringLimits(due);
        grainsOfLots(due);
        numbersOfLots(due);
        mostLots(due);
        sweeten(due);
        move(due);
        lot(due);
        lotsAtTheirEnds(due);
        grain(due);
        share(due);
        bits(due);
        due.end();
    }

    private static void newCellar(Due due) {
        due.sentence("Promise 1", "Creates a cellar without lots and rules.");
        VineyardBlends x = new VineyardBlends();
        due.is("lots", x.count(0), 0);
        due.is("grains", x.count(3), 0);
        due.is("rules", x.count(4), 0);
        due.is("lot(0, 0)", x.lot(0, 0), -4);
        due.is("grain(0, 0, 0)", x.grain(0, 0, 0), -4);
        due.is("rule(0, 0)", x.rule(0, 0), -4);
        due.is("ranked(0)", x.ranked(0), -4);

        due.sentence("Promise 1", "What it is", "An object is used for at most 512 calls after it has been made");
        VineyardBlends last = new VineyardBlends();
        due.is("call 1", last.bring(7, 0, 2000, 0, 0, 0), 0);
        for (int call = 2; call <= 510; call++) {
            due.is("call " + call, last.sweeten(0, call % 501), call == 2 ? 0 : (call - 1) % 501);
        }
        due.is("call 511", last.undo(), 3);
        due.is("call 512", last.lot(0, 4), 509 % 501);
    }

    private static VineyardBlends brought(int... a) {
        VineyardBlends x = new VineyardBlends();
        x.bring(a[0], a[1], a[2], a[3], a[4], a[5]);
        return x;
    }

    private static int bringOnly(int... a) {
        return new VineyardBlends().bring(a[0], a[1], a[2], a[3], a[4], a[5]);
    }

    private static void bring(Due due) {
        due.sentence("Promise 2", "litres: 1 to 10000");
        due.range("bring(?, 3, 2020, 5, 1000, 50)", 1, 0, 10000, 0, v -> bringOnly(v, 3, 2020, 5, 1000, 50));
        due.sentence("Promise 2", "origin: 0 to 7");
        due.range("bring(9, ?, 2020, 5, 1000, 50)", 0, 0, 7, 0, v -> bringOnly(9, v, 2020, 5, 1000, 50));
        due.sentence("Promise 2", "year: 2000 to 2063");
        due.range("bring(9, 3, ?, 5, 1000, 50)", 2000, 0, 2063, 0, v -> bringOnly(9, 3, v, 5, 1000, 50));
        due.sentence("Promise 2", "variety: 0 to 9");
        due.range("bring(9, 3, 2020, ?, 1000, 50)", 0, 0, 9, 0, v -> bringOnly(9, 3, 2020, v, 1000, 50));
        due.sentence("Promise 2", "alcohol: 0 to 2000");
        due.range("bring(9, 3, 2020, 5, ?, 50)", 0, 0, 2000, 0, v -> bringOnly(9, 3, 2020, 5, v, 50));
        due.sentence("Promise 2", "acid: 0 to 200");
        due.range("bring(9, 3, 2020, 5, 1000, ?)", 0, 0, 200, 0, v -> bringOnly(9, 3, 2020, 5, 1000, v));

        due.sentence("Promise 2", "Brings a lot of one grain, in steel.");
        VineyardBlends x = brought(9, 3, 2020, 5, 1000, 50);
        due.is("grains", x.lot(0, 1), 1);
        due.is("kind", x.lot(0, 5), 0);
        due.is("its litres", x.grain(0, 0, 3), 9);
        due.sentence("Promise 2", "Returns the number of the lot (its sugar is 0)");
        due.is("sugar", x.lot(0, 4), 0);
        due.is("the first lot", bringOnly(9, 3, 2020, 5, 1000, 50), 0);
        due.is("the second lot", x.bring(9, 3, 2020, 5, 1000, 50), 1);
    }

    private static void bringLimits(Due due) {
        String limits = "LIMIT_REACHED if there are 12 lots, 6 lots in steel, or 200 grains";
        due.sentence("Promise 2", limits);
        VineyardBlends lots = Cellars.fullOfLots();
        due.is("12 lots", lots.bring(1, 0, 2000, 0, 0, 0), -3);
        lots.bottle(11, 10, 100);
        due.is("11 lots", lots.count(0), 11);
        due.is("the twelfth lot", lots.bring(1, 0, 2000, 0, 0, 0), 12);
        due.is("12 lots again", lots.bring(1, 0, 2000, 0, 0, 0), -3);

        VineyardBlends steel = Cellars.withLots(5);
        due.is("the sixth lot in steel", steel.bring(1, 0, 2000, 0, 0, 0), 5);
        due.is("6 lots in steel", steel.bring(1, 0, 2000, 0, 0, 0), -3);
        steel.move(2, 1);
        due.is("5 in steel, 1 in oak", steel.bring(1, 0, 2000, 0, 0, 0), 6);

        VineyardBlends grains = Cellars.fullOfGrains();
        due.is("200 grains, 10 lots, 4 of them in steel", grains.bring(1, 0, 2000, 0, 0, 0), -3);
        grains.bottle(23, 181, 100);
        due.is("a grain is gone", grains.count(3), 199);
        due.is("the 200th grain", grains.bring(1, 0, 2000, 0, 0, 0), 33);
        due.is("200 grains", grains.count(3), 200);
        due.is("200 grains, 11 lots, 5 of them in steel", grains.bring(1, 0, 2000, 0, 0, 0), -3);
    }

    private static void grainsOfLots(Due due) {
        due.sentence("Promise 6", "Lots", "all three together different from those of other grains of the lot");
        VineyardBlends x = new VineyardBlends();
        x.set(0, 0);
        x.bring(1, 3, 2020, 5, 0, 0);
        x.bring(2, 4, 2020, 5, 0, 0);
        x.bring(3, 3, 2021, 5, 0, 0);
        x.bring(4, 3, 2020, 6, 0, 0);
        x.bring(5, 3, 2020, 5, 0, 0);
        for (int i = 0; i < 5; i++) {
            x.recipe(i, i + 1);
        }
        x.blend(15, 0);
        due.is("grains unlike in one of three, and two alike", x.lot(5, 1), 4);
        int[][] grains = {{3, 2020, 5, 6}, {3, 2020, 6, 4}, {3, 2021, 5, 3}, {4, 2020, 5, 2}};
        for (int i = 0; i < 4; i++) {
            for (int what = 0; what < 4; what++) {
                due.is("grain(5, " + i + ", " + what + ")", x.grain(5, i, what), grains[i][what]);
            }
        }

        due.sentence("Promise 6", "Lots", "Grains have the order by ascending origins, then years, then varieties.");
        VineyardBlends y = new VineyardBlends();
        int[][] ends = {{7, 2000, 0}, {0, 2063, 9}, {0, 2063, 8}, {1, 2000, 0}, {0, 2000, 9}, {0, 2001, 0}};
        for (int i = 0; i < 6; i++) {
            y.recipe(y.bring(1, ends[i][0], ends[i][1], ends[i][2], 0, 0), 1);
        }
        y.blend(6, 0);
        int[] order = {4, 5, 2, 1, 3, 0};
        for (int i = 0; i < 6; i++) {
            for (int what = 0; what < 3; what++) {
                due.is("grain(6, " + i + ", " + what + ")", y.grain(6, i, what), ends[order[i]][what]);
            }
        }

        due.sentence("Promise 6", "Lots", "and litres, 1 or more");
        due.is("a grain of 1 litre", y.grain(6, 0, 3), 1);
        y.bottle(6, 5, 100);
        due.is("the grain of 1 litre that is left", y.lot(6, 1), 1);
        due.is("its litres", y.grain(6, 0, 3), 1);
        due.is("no grain of 0 litres", y.grain(6, 1, 3), -4);

        due.sentence("Promise 5", "Lots", "The litres of a lot are the sum of those of its grains.");
        due.is("of one grain", y.lot(6, 0), 1);
        due.is("of four grains", x.lot(5, 0), 6 + 4 + 3 + 2);
        x.bottle(5, 4, 100);
        int sum = 0;
        for (int i = 0; i < x.lot(5, 1); i++) {
            sum += x.grain(5, i, 3);
        }
        due.is("of those that are left", sum, 11);
        due.is("litres", x.lot(5, 0), 11);
    }

    private static void numbersOfLots(Due due) {
        due.sentence("Promise 2", "Lots", "Lots get the numbers 0, 1, 2, and so on in the order in which they come");
        VineyardBlends x = Cellars.withLots(2);
        x.recipe(1, 1);
        due.is("two are brought", x.count(6), 2);
        due.is("a blend", x.blend(4, 0), 2);
        due.is("brought", x.bring(5, 0, 2000, 0, 0, 0), 3);
        due.is("next", x.count(6), 4);

        due.sentence("Promise 2", "Lots", "a lot without litres is gone");
        x.bottle(3, 4, 100);
        due.is("1 litre is left", x.lot(3, 0), 1);
        x.bottle(3, 1, 100);
        due.is("no litre is left", x.lot(3, 0), -4);
        x.blend(6, 0);
        due.is("no litre is left by the blend", x.lot(1, 0), -4);
        due.is("lots", x.count(0), 3);

        due.sentence("Promise 2", "Lots", "its number is never given again (but behind undo)");
        due.is("next", x.count(6), 5);
        due.is("brought", x.bring(5, 0, 2000, 0, 0, 0), 5);
        due.is("the last one goes", x.bottle(5, 5, 100), 5);
        due.is("brought", x.bring(5, 0, 2000, 0, 0, 0), 6);
        x.undo();
        due.is("behind undo", x.bring(5, 0, 2000, 0, 0, 0), 6);
        x.undo();
        x.undo();
        due.is("behind undo of its going", x.lot(5, 0), 5);
        x.undo();
        due.is("behind undo of its coming", x.bring(3, 0, 2000, 0, 0, 0), 5);
    }

    private static void mostLots(Due due) {
        due.sentence("Promise 2", "Lots", "There are at most 12 lots at a time");
        VineyardBlends full = Cellars.fullOfLots();
        due.is("lots", full.count(0), 12);
        for (int i = 0; i < 12; i++) {
            due.is("litres of lot " + i, full.lot(i, 0), 10);
        }
        due.is("one more", full.bring(10, 0, 2000, 0, 0, 0), -3);
        due.is("lots", full.count(0), 12);

        due.sentence("Promise 2", "Lots", "at most 6 of them are in steel and at most 6 in oak");
        due.is("in steel", full.count(1), 6);
        due.is("in oak", full.count(2), 6);
        due.is("a seventh in oak", full.move(6, 1), -3);
        due.is("a seventh in steel", full.move(0, 0), -3);

        due.sentence("Promise 10", "Lots", "of at most 10000 litres each");
        VineyardBlends x = new VineyardBlends();
        x.set(0, 0);
        x.bring(10000, 0, 2000, 0, 2000, 200);
        x.bring(10000, 0, 2000, 0, 2000, 200);
        x.sweeten(0, 500);
        x.sweeten(1, 500);
        x.recipe(0, 1);
        x.recipe(1, 1);
        due.is("more than 10000", x.blend(10001, 1), -1);
        due.is("10000 of both", x.blend(10000, 1), 2);
        due.is("litres", x.lot(2, 0), 10000);
        due.is("of one grain", x.grain(2, 0, 3), 10000);
        due.is("alcohol", x.lot(2, 2), 2000);
        due.is("acid", x.lot(2, 3), 200);
        due.is("sugar", x.lot(2, 4), 500);

        due.sentence("Promise 21", "Lots", "at most 200 grains in all of them");
        GreatLot great = new GreatLot();
        VineyardBlends y = great.x;
        due.is("grains of all lots", y.count(3), 200);
        due.is("lots", y.count(0), 1);
        due.is("grains of the lot", y.lot(great.number, 1), 200);
        due.is("litres of the lot", y.lot(great.number, 0), 618);
        due.is("origin of the last grain", y.grain(great.number, 199, 0), 3);
        due.is("year of the last grain", y.grain(great.number, 199, 1), 2007);
        due.is("variety of the last grain", y.grain(great.number, 199, 2), 9);
        due.is("no more grains", y.grain(great.number, 200, 0), -4);
        due.is("one more, in a cellar with no lot in steel", y.bring(1, 7, 2063, 9, 0, 0), -3);
        due.is("3 of 618 litres", y.months(1), 3);
        due.is("litres of the lot", y.lot(great.number, 0), 615);
        y.bottle(great.number, 600, 100);
        due.is("grains of 15 litres", y.count(3) <= 15 ? 1 : 0, 1);
        due.is("one more", y.bring(1, 7, 2063, 9, 0, 0), great.number + 1);
        y.undo();
        y.undo();
        due.is("grains behind undo", y.count(3), y.lot(great.number, 1));
    }

    private static void sweeten(Due due) {
        due.sentence("Promise 3", "lot: number of the lot");
        due.lotNumber("sweeten(?, 5)", 0, v -> Cellars.withLotGone().sweeten(v, 5));
        due.sentence("Promise 3", "sugar: 0 to 500");
        due.range("sweeten(0, ?)", 0, 0, 500, 0, v -> Cellars.withLotGone().sweeten(0, v));
        due.sentence("Promise 3", "Returns the previous sugar");
        VineyardBlends x = Cellars.withLotGone();
        due.is("none", x.sweeten(0, 500), 0);
        due.is("the most", x.sweeten(0, 1), 500);
        due.is("the least above none", x.sweeten(0, 0), 1);
        due.is("none", x.lot(0, 4), 0);
    }

    private static void move(Due due) {
        due.sentence("Promise 4", "lot: number of the lot");
        due.lotNumber("move(?, 1)", 1, v -> Cellars.withLotGone().move(v, 1));
        due.sentence("Promise 4", "kind: 0 for steel, 1 for oak");
        due.range("move(0, ?)", 0, -2, 1, 1, v -> Cellars.withLotGone().move(0, v));
        VineyardBlends x = Cellars.withLotGone();
        x.move(0, 1);
        due.is("in oak", x.lot(0, 5), 1);
        x.move(0, 0);
        due.is("in steel", x.lot(0, 5), 0);
        due.sentence("Promise 4", "Returns how many lots are there then");
        VineyardBlends six = Cellars.withLots(6);
        for (int i = 0; i < 6; i++) {
            due.is("to oak", six.move(i, 1), i + 1);
        }
        for (int i = 0; i < 6; i++) {
            due.is("to steel", six.move(i, 0), i + 1);
        }
        due.sentence("Promise 4", "NOT_POSSIBLE if it is there already");
        due.is("in steel, where there are 6", six.move(0, 0), -2);
        six.move(0, 1);
        due.is("in oak, where there is 1", six.move(0, 1), -2);
        due.is("in steel, where there are 5", six.move(1, 0), -2);
        due.sentence("Promise 4", "LIMIT_REACHED if 6 lots are there");
        VineyardBlends full = Cellars.fullOfLots();
        due.is("to oak", full.move(6, 1), -3);
        due.is("to steel", full.move(0, 0), -3);
        full.bottle(5, 10, 100);
        due.is("to oak, where there are 5", full.move(6, 1), 6);
        due.is("to steel, where there are 5", full.move(0, 0), 6);
    }

    private static void lot(Due due) {
        due.sentence("Promise 5", "lot: number of the lot");
        due.lotNumber("lot(?, 0)", 100, v -> Cellars.withLotGone().lot(v, 0));
        due.sentence("Promise 5", "what: 0: its litres; 1: its grains; 2: its alcohol; 3: its acid; 4: its sugar; 5: 0 for steel, 1 for oak; "
                + "6: its broken rules, as a bit mask; 7: its scores; 8: its parts in the recipe, 0 if it is not in it");
        due.range("lot(0, ?)", 0, 100, 8, 0, v -> Cellars.withLotGone().lot(0, v));
        VineyardBlends x = Cellars.withLotGone();
        int[] fresh = {100, 1, 1200, 60, 0, 0, 0, 0, 0};
        for (int what = 0; what < 9; what++) {
            due.is("fresh: lot(0, " + what + ")", x.lot(0, what), fresh[what]);
        }
        x.sweeten(0, 33);
        x.move(0, 1);
        x.score(0, 0, 0);
        Cellars.rules(x, "acid most 9;acid most 60;acid least 61;");
        x.recipe(0, 20);
        int[] used = {100, 1, 1200, 60, 33, 1, 1 + 4, 1, 20};
        for (int what = 0; what < 9; what++) {
            due.is("used: lot(0, " + what + ")", x.lot(0, what), used[what]);
        }
        x.recipe(0, 1);
        due.is("the least parts", x.lot(0, 8), 1);
        x.recipe(0, 0);
        due.is("not in it", x.lot(0, 8), 0);
        for (int taster = 0; taster < 8; taster++) {
            x.score(0, taster, 200);
        }
        due.is("all scores", x.lot(0, 7), 8);
        for (int taster = 0; taster < 8; taster++) {
            x.score(0, taster, -1);
        }
        due.is("no scores", x.lot(0, 7), 0);
    }

    private static void lotsAtTheirEnds(Due due) {
        due.sentence("Promise 5", "Lots", "A lot has an alcohol (0 to 2000), an acid (0 to 200) and a sugar (0 to 500), "
                + "and it is in steel (0) or in oak (1).");
        VineyardBlends least = brought(1, 0, 2000, 0, 0, 0);
        VineyardBlends greatest = brought(10000, 7, 2063, 9, 2000, 200);
        greatest.sweeten(0, 500);
        greatest.move(0, 1);
        int[] leastLot = {1, 1, 0, 0, 0, 0};
        int[] greatestLot = {10000, 1, 2000, 200, 500, 1};
        for (int what = 0; what < 6; what++) {
            due.is("least: lot(0, " + what + ")", least.lot(0, what), leastLot[what]);
            due.is("greatest: lot(0, " + what + ")", greatest.lot(0, what), greatestLot[what]);
        }
        due.sentence("Promise 6", "Lots", "each grain has an origin (0 to 7), a year (2000 to 2063) and a variety (0 to 9)");
        int[] leastGrain = {0, 2000, 0, 1};
        int[] greatestGrain = {7, 2063, 9, 10000};
        for (int what = 0; what < 4; what++) {
            due.is("least: grain(0, 0, " + what + ")", least.grain(0, 0, what), leastGrain[what]);
            due.is("greatest: grain(0, 0, " + what + ")", greatest.grain(0, 0, what), greatestGrain[what]);
        }
    }

    private static void grain(Due due) {
        due.sentence("Promise 6", "lot: number of the lot");
        due.lotNumber("grain(?, 0, 3)", 100, v -> Cellars.withLotGone().grain(v, 0, 3));
        due.sentence("Promise 6", "grain: 0 for the first one, and so on");
        VineyardBlends x = new VineyardBlends();
        int lot = Cellars.blendOfGrains(x, 4, 3);
        for (int i = 0; i < 3; i++) {
            due.is("year of grain " + i, x.grain(lot, i, 1), 2000 + i);
        }
        due.sentence("Promise 6", "INVALID_ARGUMENT if an argument is out of range (grain: negative)");
        due.is("grain -1", x.grain(lot, -1, 1), -1);
        due.is("the least grain", x.grain(lot, Integer.MIN_VALUE, 1), -1);
        due.sentence("Promise 6", "NOT_FOUND if there is no such lot, or it has not so many grains");
        due.is("grain 3 of 3", x.grain(lot, 3, 1), -4);
        due.is("the greatest grain", x.grain(lot, Integer.MAX_VALUE, 1), -4);
        due.is("grain 0 of a lot that has not come", x.grain(lot + 1, 0, 1), -4);
        x.bottle(lot, 1, 100);
        due.is("grain 2 of 2", x.grain(lot, 2, 1), -4);
        due.is("grain 1 of 2", x.grain(lot, 1, 1), 2002);
        due.sentence("Promise 6", "what: 0: its origin; 1: its year; 2: its variety; 3: its litres");
        due.range("grain(0, 0, ?)", 0, 1, 3, 100, v -> Cellars.withLotGone().grain(0, 0, v));
        int[] grain = {1, 2020, 3, 100};
        for (int what = 0; what < 4; what++) {
            due.is("grain(0, 0, " + what + ")", Cellars.withLotGone().grain(0, 0, what), grain[what]);
        }
    }

    private static void share(Due due) {
        due.sentence("Promise 7", "lot: number of the lot");
        due.lotNumber("share(?, 0, 1)", 100, v -> Cellars.withLotGone().share(v, 0, 1));
        due.sentence("Promise 7", "what: 0: of an origin; 1: of a year; 2: of a variety");
        due.is("share(0, -1, 3)", Cellars.withLotGone().share(0, -1, 3), -1);
        due.is("share(0, 0, 1)", Cellars.withLotGone().share(0, 0, 1), 100);
        due.is("share(0, 1, 2020)", Cellars.withLotGone().share(0, 1, 2020), 100);
        due.is("share(0, 2, 3)", Cellars.withLotGone().share(0, 2, 3), 100);
        due.is("share(0, 3, 3)", Cellars.withLotGone().share(0, 3, 3), -1);
        due.is("share(0, MIN, 3)", Cellars.withLotGone().share(0, Integer.MIN_VALUE, 3), -1);
        due.is("share(0, MAX, 3)", Cellars.withLotGone().share(0, Integer.MAX_VALUE, 3), -1);
        due.sentence("Promise 7", "value: the origin, year or variety, in its range");
        due.range("share(0, 0, ?)", 0, 0, 7, 0, v -> Cellars.withLotGone().share(0, 0, v));
        due.range("share(0, 1, ?)", 2000, 0, 2063, 0, v -> Cellars.withLotGone().share(0, 1, v));
        due.range("share(0, 2, ?)", 0, 0, 9, 0, v -> Cellars.withLotGone().share(0, 2, v));
        due.range("ends: share(0, 0, ?)", 0, 100, 7, 0, v -> brought(1, 0, 2000, 0, 0, 0).share(0, 0, v));
        due.range("ends: share(0, 1, ?)", 2000, 0, 2063, 100, v -> brought(1, 0, 2063, 0, 0, 0).share(0, 1, v));
        due.range("ends: share(0, 2, ?)", 0, 0, 9, 100, v -> brought(1, 0, 2063, 9, 0, 0).share(0, 2, v));

        due.sentence("Promise 7", "Rules", "The share of an origin, a year or a variety in a lot is 100 * (litres of grains with it) / (litres of the lot).");
        VineyardBlends x = new VineyardBlends();
        x.set(0, 0);
        x.bring(10000, 1, 2001, 1, 0, 0);
        x.bring(10000, 2, 2002, 2, 0, 0);
        x.bring(10000, 1, 2002, 1, 0, 0);
        x.recipe(0, 20);
        x.recipe(1, 1);
        due.is("2 of 42", x.blend(42, 1), 3);
        due.is("95.2", x.share(3, 0, 1), 95);
        due.is("4.8", x.share(3, 0, 2), 4);
        due.is("none", x.share(3, 0, 3), 0);
        x.recipe(2, 20);
        due.is("1 of 41, of litres of two grains with the origin", x.blend(41, 1), 4);
        due.is("97.6", x.share(4, 0, 1), 97);
        due.is("48.8", x.share(4, 1, 2001), x.grain(4, 0, 3) * 100 / 41);
        due.is("2.4", x.share(4, 2, 2), 2);

        due.sentence("Promise 7", "Terms", "divisions are rounded down, if nothing else is said");
        VineyardBlends y = new VineyardBlends();
        y.set(0, 0);
        y.bring(20, 0, 2000, 0, 0, 0);
        y.bring(1, 0, 2000, 1, 0, 0);
        y.recipe(0, 20);
        y.recipe(1, 1);
        due.is("20 and 1", y.blend(21, 1), 2);
        due.is("95.2", y.share(2, 2, 0), 95);
        due.is("4.8", y.share(2, 2, 1), 4);
    }

    private static void bits(Due due) {
        due.sentence("Promise 8", "lot: number of the lot");
        due.lotNumber("bits(?)", 1L << 12 | 1L << 57, v -> Cellars.withLotGone().bits(v));
        due.sentence("Promise 8", "the year 2000 + k as the bit k, shifted to the right by 8 without keeping the sign");
        for (int k = 0; k < 64; k++) {
            long want = k < 8 ? 0 : 1L << (k - 8);
            due.is("the year " + (2000 + k), brought(1, 0, 2000 + k, 0, 0, 0).bits(0), want | 1L << 56);
        }
        due.sentence("Promise 8", "in the place of the bits 56 to 63, which are free then, all origins, the origin o as the bit 56 + o");
        for (int o = 0; o < 8; o++) {
            due.is("the origin " + o, brought(1, o, 2000, 0, 0, 0).bits(0), 1L << (56 + o));
            due.is("the origin " + o + " of 2063", brought(1, o, 2063, 0, 0, 0).bits(0), 1L << (56 + o) | 1L << 55);
        }
        due.sentence("Promise 8", "Returns all years of a lot as bits");
        VineyardBlends x = new VineyardBlends();
        int[] years = {2000, 2007, 2008, 2009, 2062, 2063};
        int[] origins = {7, 6, 0, 1, 2, 0};
        for (int i = 0; i < 6; i++) {
            x.recipe(x.bring(1, origins[i], years[i], 0, 0, 0), 1);
        }
        x.blend(6, 0);
        long all = 1L | 2L | 1L << 54 | 1L << 55;
        due.is("six years, five origins", x.bits(6), all | (1L | 2L | 4L | 64L | 128L) << 56);
        due.sentence("Promise 8", "INVALID_ARGUMENT if lot is negative");
        due.is("lot -1", x.bits(-1), -1L);
        due.is("the least lot", x.bits(Integer.MIN_VALUE), -1L);
    }
}
