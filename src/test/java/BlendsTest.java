/** Promises 9 to 13: recipe, blend, ifBlend, mostLitres, partsFor. */
public final class BlendsTest {
    public static void main(String[] args) {
        Due due = new Due("blends");
        recipe(due);
        blendShares(due);
        blendLoses(due);
        blendErrors(due);
        blendLimits(due);
        blendAndGrains(due);
        ifBlend(due);
        mostLitres(due);
        partsFor(due);
        due.end();
    }

    private static void recipe(Due due) {
        VineyardBlends x = new VineyardBlends();
        due.is("no lot", x.recipe(0, 1), -4);
        for (int i = 0; i < 6; i++) {
            x.bring(10, i, 2000, 0, 0, 0);
        }
        x.move(0, 1);
        x.bring(10, 6, 2000, 0, 0, 0);
        due.is("recipe(-1, 1)", x.recipe(-1, 1), -1);
        due.is("recipe(0, -1)", x.recipe(0, -1), -1);
        due.is("recipe(0, 21)", x.recipe(0, 21), -1);
        due.is("recipe(7, 21)", x.recipe(7, 21), -1);
        due.is("recipe(7, 20)", x.recipe(7, 20), -4);
        due.is("recipe(7, 0)", x.recipe(7, 0), -4);
        for (int i = 5; i >= 0; i--) {
            due.is("recipe(" + i + ", 1)", x.recipe(i, 1), 6 - i);
        }
        due.is("a seventh lot", x.recipe(6, 1), -3);
        due.is("its parts", x.lot(6, 8), 0);
        due.is("no parts for a lot that has none", x.recipe(6, 0), 6);
        due.is("other parts", x.recipe(3, 20), 6);
        due.is("parts", x.lot(3, 8), 20);
        due.is("out", x.recipe(3, 0), 5);
        due.is("parts", x.lot(3, 8), 0);
        due.is("in", x.recipe(6, 2), 6);
        due.is("count(5)", x.count(5), 6);
        x.bottle(6, 10, 100);
        due.is("a lot that is gone leaves", x.count(5), 5);
        x.undo();
        due.is("and comes back", x.lot(6, 8), 2);
        due.is("count(5)", x.count(5), 6);
    }

    /** 3 : 2 : 2 of 10 are 4 2/7, 2 6/7, 2 6/7; what is left, 2, goes to the greatest remainders. */
    private static void blendShares(Due due) {
        VineyardBlends x = new VineyardBlends();
        x.set(0, 0);
        x.bring(100, 1, 2000, 0, 1000, 10);
        x.bring(100, 2, 2000, 0, 1101, 20);
        x.bring(100, 3, 2000, 0, 1203, 35);
        x.sweeten(0, 500);
        x.sweeten(2, 7);
        x.recipe(2, 2);
        x.recipe(0, 3);
        x.recipe(1, 2);
        due.is("blend", x.blend(10, 1), 3);
        for (int i = 0; i < 3; i++) {
            due.is("litres of grain " + i, x.grain(3, i, 3), new int[] {4, 3, 3}[i]);
            due.is("left in lot " + i, x.lot(i, 0), new int[] {96, 97, 97}[i]);
        }
        due.is("litres", x.lot(3, 0), 10);
        due.is("alcohol 10912 / 10", x.lot(3, 2), 1091);
        due.is("acid 205 / 10", x.lot(3, 3), 20);
        due.is("sugar 2021 / 10", x.lot(3, 4), 202);
        due.is("kind", x.lot(3, 5), 1);
        due.is("no scores", x.lot(3, 7), 0);
        due.is("not in the recipe", x.lot(3, 8), 0);
        due.is("nothing lost", x.account(1), 0);
        due.is("all left", x.account(4), 300);
        due.is("equal remainders: to those that come first", x.recipe(0, 2), 3);
        due.is("blend", x.blend(2, 0), 4);
        due.is("two grains", x.lot(4, 1), 2);
        due.is("origin 1", x.grain(4, 0, 0), 1);
        due.is("origin 2", x.grain(4, 1, 0), 2);
        due.is("nothing from lot 2", x.lot(2, 0), 97);

        VineyardBlends y = new VineyardBlends();
        y.set(0, 0);
        y.bring(3, 0, 2000, 0, 100, 0);
        y.bring(5, 0, 2000, 1, 100, 0);
        y.recipe(0, 3);
        y.recipe(1, 5);
        due.is("all of both", y.blend(8, 1), 2);
        due.is("one lot is left", y.count(0), 1);
        due.is("no recipe is left", y.count(5), 0);
        y.bring(10, 0, 2000, 1, 100, 0);
        y.recipe(2, 1);
        y.recipe(3, 1);
        due.is("3 of the lot of two grains, 3 of the other", y.blend(6, 0), 4);
        due.is("3 * 3 / 8, remainder 1", y.grain(4, 0, 3), 1);
        due.is("3 * 5 / 8, remainder 7, and 3", y.grain(4, 1, 3), 5);
        due.is("left of the first grain", y.grain(2, 0, 3), 2);
        due.is("left of the second grain", y.grain(2, 1, 3), 3);
    }

    private static void blendLoses(Due due) {
        VineyardBlends x = new VineyardBlends();
        x.bring(1000, 1, 2000, 0, 1000, 0);
        x.bring(1000, 0, 2000, 0, 1000, 0);
        x.recipe(0, 1);
        x.recipe(1, 1);
        due.is("99 lose nothing", x.ifBlend(99, 6), 0);
        due.is("100 lose 1", x.blend(100, 0), 2);
        due.is("99 litres", x.lot(2, 0), 99);
        due.is("the first grain loses it", x.grain(2, 0, 3), 49);
        due.is("the second one does not", x.grain(2, 1, 3), 50);
        due.is("lost", x.account(1), 1);
        due.is("left", x.account(4), 1999);
        x.set(0, 100);
        due.is("a tenth is lost", x.blend(109, 0), 3);
        due.is("litres", x.lot(3, 0), 99);
        due.is("lost in all", x.account(1), 11);
        due.is("left", x.account(4), 1989);
        due.is("brought", x.account(0), 2000);
        due.is("measures are those ahead of the loss", x.lot(3, 2), 1000);

        VineyardBlends y = new VineyardBlends();
        y.set(0, 100);
        y.bring(1, 0, 2000, 0, 0, 0);
        y.bring(9, 1, 2000, 0, 0, 0);
        y.recipe(0, 1);
        y.recipe(1, 9);
        due.is("blend", y.blend(10, 0), 2);
        due.is("1 of 10 is lost by the grain with the greater remainder", y.grain(2, 1, 3), 8);
        y.bottle(2, 9, 100);
        y.bring(1, 0, 2000, 0, 0, 0);
        y.bring(1, 1, 2000, 0, 0, 0);
        for (int i = 0; i < 4; i++) {
            y.bring(2, 2 + i, 2000, 0, 0, 0);
        }
        y.recipe(3, 1);
        y.recipe(4, 1);
        for (int i = 0; i < 4; i++) {
            y.recipe(5 + i, 2);
        }
        due.is("litres", y.ifBlend(10, 0), 9);
        due.is("no grain is lost, but a litre of a grain of two", y.ifBlend(10, 1), 6);

        VineyardBlends z = new VineyardBlends();
        z.set(0, 0);
        for (int i = 0; i < 5; i++) {
            z.bring(1, 2, 2000 + i, 0, 0, 0);
            z.recipe(i, 1);
        }
        z.blend(5, 1);
        for (int i = 0; i < 5; i++) {
            z.bring(1, 1, 2000 + i, 0, 0, 0);
            z.recipe(6 + i, 1);
        }
        z.recipe(5, 5);
        due.is("ten grains without a loss", z.ifBlend(10, 1), 10);
        z.set(0, 100);
        due.is("nine grains behind the loss", z.ifBlend(10, 1), 9);
        due.is("blend", z.blend(10, 1), 11);
        due.is("nine grains", z.count(3), 9);
        due.is("the first one is gone", z.grain(11, 0, 1), 2001);
    }

    private static void blendErrors(Due due) {
        VineyardBlends x = new VineyardBlends();
        due.is("blend(0, 0)", x.blend(0, 0), -1);
        due.is("blend(10001, 0)", x.blend(10001, 0), -1);
        due.is("blend(1, -1)", x.blend(1, -1), -1);
        due.is("blend(1, 2)", x.blend(1, 2), -1);
        due.is("no recipe", x.blend(1, 0), -2);
        x.set(0, 0);
        x.bring(10, 1, 2000, 0, 1000, 0);
        x.bring(20, 2, 2000, 0, 1200, 0);
        x.recipe(0, 1);
        x.recipe(1, 1);
        int states = x.count(12);
        due.is("11 of a lot of 10", x.blend(22, 0), -2);
        due.is("11 of a lot of 10, with the greater remainder", x.blend(21, 0), -2);
        Cellars.rules(x, "origin 1 least 51;");
        due.is("a rule is broken", x.blend(20, 0), -2);
        x.dropRule(0);
        Cellars.rules(x, "alcohol most 1099;");
        due.is("a rule is broken", x.blend(20, 0), -2);
        x.dropRule(0);
        Cellars.rules(x, "alcohol most 1100;origin 1 least 50;");
        due.is("errors are no states", x.count(12), Math.min(4, states + 5));
        due.is("no rule is broken", x.blend(20, 0), 2);
        due.is("states", x.count(12), 4);
        due.is("left of lot 0", x.lot(0, 0), -4);
        due.is("left of lot 1", x.lot(1, 0), 10);
        x.undo();
        due.is("lot 0 is back", x.lot(0, 0), 10);
        due.is("lot 2 is not there", x.lot(2, 0), -4);
        due.is("the greatest blend", new VineyardBlends().blend(10000, 1), -2);
    }

    private static void blendLimits(Due due) {
        VineyardBlends x = new VineyardBlends();
        x.set(0, 0);
        for (int i = 0; i < 6; i++) {
            x.bring(10, i, 2000, 0, 0, 0);
        }
        x.recipe(0, 1);
        due.is("a seventh lot in steel", x.blend(5, 0), -3);
        due.is("not enough comes ahead of the limit", x.blend(11, 0), -2);
        due.is("the limit changes nothing", x.lot(0, 0), 10);
        due.is("but not if a lot goes", x.blend(10, 0), 6);
        due.is("6 in steel", x.count(1), 6);
        x.recipe(1, 1);
        for (int i = 0; i < 6; i++) {
            due.is("to oak", x.blend(1, 1), 7 + i);
        }
        due.is("12 lots", x.count(0), 12);
        due.is("a seventh lot in oak", x.blend(1, 1), -3);
        due.is("a seventh lot in steel", x.blend(1, 0), -3);
        due.is("for a lot that goes from the other kind", x.blend(4, 1), -3);
        due.is("for a lot that goes", x.blend(4, 0), 13);
        due.is("12 lots", x.count(0), 12);
        x.recipe(7, 1);
        due.is("a lot that goes from oak to oak", x.blend(1, 1), 14);
        due.is("6 in oak", x.count(2), 6);
        x.recipe(8, 1);
        due.is("from oak to steel, where there are 6", x.blend(1, 0), -3);
    }

    private static void blendAndGrains(Due due) {
        VineyardBlends x = Cellars.fullOfGrains();
        int last = x.count(6) - 1;
        x.recipe(23, 1);
        due.is("one lot in the recipe", x.count(5), 1);
        due.is("10 lots", x.count(0), 10);
        due.is("220 grains would be too many", x.blend(100, 0), -3);
        due.is("nothing changes", x.count(3), 200);
        due.is("one grain less does not help", x.ifBlend(1, 1), 1);
        due.is("1 litre would make 201 grains", x.blend(1, 0), -3);
        x.recipe(23, 0);
        x.recipe(last, 1);
        due.is("all of a lot", x.ifBlend(200, 1), 20);
        due.is("200 grains as before", x.blend(200, 0), last + 1);
        due.is("200 grains", x.count(3), 200);
        due.is("10 lots", x.count(0), 10);
        x.recipe(last + 1, 1);
        due.is("all but a litre of each but one grain", x.blend(181, 0), -3);
        x.bottle(0, 1, 100);
        due.is("the lots of 200 litres have 10 of each grain", x.grain(last + 1, 19, 3), 10);
    }

    private static void ifBlend(Due due) {
        VineyardBlends x = new VineyardBlends();
        due.is("ifBlend(0, 0)", x.ifBlend(0, 0), -1);
        due.is("ifBlend(10001, 0)", x.ifBlend(10001, 0), -1);
        due.is("ifBlend(1, -1)", x.ifBlend(1, -1), -1);
        due.is("ifBlend(1, 8)", x.ifBlend(1, 8), -1);
        due.is("no recipe", x.ifBlend(1, 0), -2);
        x.set(0, 50);
        x.bring(10, 1, 2000, 0, 1000, 10);
        x.bring(20, 2, 2001, 0, 1200, 20);
        x.bring(10, 1, 2000, 0, 1300, 35);
        x.sweeten(2, 101);
        x.recipe(0, 1);
        x.recipe(1, 2);
        x.recipe(2, 1);
        Cellars.rules(x, "origin 1 least 50;origin 1 most 50;alcohol least 1175;alcohol least 1176;acid most 20;sugar most 25;");
        int states = x.count(12);
        int[] all = {38, 2, 1175, 21, 25, 8 + 16, 2, 3};
        for (int what = 0; what < all.length; what++) {
            due.is("ifBlend(40, " + what + ")", x.ifBlend(40, what), all[what]);
        }
        due.is("ifBlend(41, 0)", x.ifBlend(41, 0), -2);
        due.is("rest of one lot", x.ifBlend(39, 7), 2);
        due.is("rest of all lots", x.ifBlend(4, 7), 0);
        due.is("nothing changes", x.account(4), 40);
        due.is("no states", x.count(12), states);
        due.is("next number", x.count(6), 3);
        due.is("recipe", x.count(5), 3);
        for (int i = 0; i < 3; i++) {
            x.bring(10, 0, 2000, 0, 0, 0);
        }
        due.is("limits are not looked at", x.ifBlend(4, 0), 4);
        due.is("grains behind the loss", x.ifBlend(2, 1), 2);
    }

    private static void mostLitres(Due due) {
        VineyardBlends x = new VineyardBlends();
        due.is("no recipe", x.mostLitres(), -2);
        x.bring(5, 0, 2000, 0, 0, 0);
        x.bring(5, 1, 2000, 0, 0, 0);
        x.bring(1, 2, 2000, 0, 0, 0);
        x.recipe(0, 6);
        x.recipe(1, 6);
        x.recipe(2, 2);
        due.is("10 would need 2 of the last lot", x.ifBlend(10, 0), -2);
        due.is("11 need 5, 5 and 1", x.mostLitres(), 11);
        due.is("rules are not looked at", Cellars.rules(x, "origin 0 most 0;"), 1);
        due.is("11 need 5, 5 and 1", x.mostLitres(), 11);
        x.recipe(2, 0);
        due.is("10 of two", x.mostLitres(), 10);
        int states = x.count(12);
        x.mostLitres();
        due.is("no states", x.count(12), states);
        x.bring(10000, 3, 2000, 0, 0, 0);
        x.bring(10000, 3, 2000, 0, 0, 0);
        x.recipe(0, 0);
        x.recipe(1, 0);
        x.recipe(3, 20);
        x.recipe(4, 1);
        due.is("no more than 10000", x.mostLitres(), 10000);
        x.recipe(2, 1);
        due.is("29 need 1, 27 and 1", x.mostLitres(), 29);
        due.is("29 can be", x.ifBlend(29, 0), 29);
        due.is("30 need 2, 27 and 1", x.ifBlend(30, 0), -2);
    }

    private static void partsFor(Due due) {
        VineyardBlends x = new VineyardBlends();
        x.bring(10, 0, 2000, 0, 1000, 10);
        x.bring(10, 0, 2000, 0, 1100, 200);
        x.sweeten(0, 500);
        due.is("the middle", x.partsFor(0, 1, 0, 1050), 101);
        due.is("three quarters", x.partsFor(0, 1, 0, 1075), 103);
        due.is("and from the other side", x.partsFor(1, 0, 0, 1075), 301);
        due.is("nearest to the first", x.partsFor(0, 1, 0, 0), 2001);
        due.is("nearest to the second", x.partsFor(0, 1, 0, 2000), 120);
        due.is("acid", x.partsFor(0, 1, 1, 105), 101);
        due.is("acid above all", x.partsFor(0, 1, 1, 2000), 120);
        due.is("sugar", x.partsFor(0, 1, 2, 375), 301);
        due.is("12 of 25", x.partsFor(0, 1, 0, 1048), 1312);
        due.is("partsFor(-1, 1, 0, 0)", x.partsFor(-1, 1, 0, 0), -1);
        due.is("partsFor(0, -1, 0, 0)", x.partsFor(0, -1, 0, 0), -1);
        due.is("partsFor(0, 0, 0, 0)", x.partsFor(0, 0, 0, 0), -1);
        due.is("partsFor(7, 7, 0, 0)", x.partsFor(7, 7, 0, 0), -1);
        due.is("partsFor(0, 1, -1, 0)", x.partsFor(0, 1, -1, 0), -1);
        due.is("partsFor(0, 1, 3, 0)", x.partsFor(0, 1, 3, 0), -1);
        due.is("partsFor(0, 1, 0, -1)", x.partsFor(0, 1, 0, -1), -1);
        due.is("partsFor(0, 1, 0, 2001)", x.partsFor(0, 1, 0, 2001), -1);
        due.is("partsFor(0, 2, 0, 2001)", x.partsFor(0, 2, 0, 2001), -1);
        due.is("partsFor(0, 2, 0, 0)", x.partsFor(0, 2, 0, 0), -4);
        due.is("partsFor(2, 0, 0, 0)", x.partsFor(2, 0, 0, 0), -4);
        due.is("partsFor(0, 1, 2, 2000)", x.partsFor(0, 1, 2, 2000), 2001);
        x.bring(10, 0, 2000, 0, 1000, 10);
        due.is("all alike: the least parts", x.partsFor(0, 2, 0, 1050), 101);
        x.bring(10, 0, 2000, 0, 1003, 10);
        due.is("two as near: 1001 and 1001 1/2 seen from 1001 1/4 is no aim; 1002", x.partsFor(0, 3, 0, 1002), 102);
        x.bring(10, 0, 2000, 0, 1002, 10);
        due.is("nearest", x.partsFor(0, 4, 0, 1001), 101);
    }
}
