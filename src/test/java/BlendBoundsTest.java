/** The sentences of the document that name bounds of sharing out and of blends: promises 9 to 13. */
public final class BlendBoundsTest {
    private static final String BEHIND =
            "(There are always litres left; its rules, litres and grains are looked at behind the loss.)";

    public static void main(String[] args) {
        Due due = new Due("bounds of blends");
        sharing(due);
        sharingByGrains(due);
        recipe(due);
        recipeOfLotsThatGo(due);
        blend(due);
        loss(due);
        lossAndRules(due);
        measures(due);
        notPossible(due);
        mostLots(due);
        mostGrains(due);
        ifBlend(due);
        ifBlendErrors(due);
        mostLitres(due);
        partsFor(due);
        nearestParts(due);
        due.end();
    }

    /** So many lots of 10000 litres, of origin 0, 1, .., all in the recipe with these parts; nothing is lost. */
    private static VineyardBlends withParts(int... parts) {
        VineyardBlends x = new VineyardBlends();
        x.set(0, 0);
        for (int i = 0; i < parts.length; i++) {
            x.bring(10000, i, 2000, 0, 1000, 50);
            x.recipe(i, parts[i]);
        }
        return x;
    }

    /** What a blend takes from the lots of withParts. */
    private static void shares(Due due, int litres, int[] parts, int... want) {
        VineyardBlends x = withParts(parts);
        due.is(litres + " litres", x.blend(litres, 1), parts.length);
        for (int i = 0; i < parts.length; i++) {
            due.is("of " + litres + " litres from lot " + i, 10000 - x.lot(i, 0), want[i]);
        }
    }

    private static void sharing(Due due) {
        due.sentence("Promise 10", "Sharing out", "each gets x * w / s, rounded down");
        shares(due, 8, new int[] {1, 3}, 2, 6);
        shares(due, 42, new int[] {20, 1}, 40, 2);
        shares(due, 10000, new int[] {20, 20, 20, 20, 20}, 2000, 2000, 2000, 2000, 2000);
        shares(due, 1, new int[] {1}, 1);
        due.sentence("Promise 10", "Sharing out", "what is left is given, 1 each, to those with the greatest remainders of x * w by s");
        shares(due, 10, new int[] {6, 6, 2}, 4, 4, 2);
        shares(due, 10, new int[] {3, 2, 2}, 4, 3, 3);
        shares(due, 10, new int[] {1, 20}, 0, 10);
        shares(due, 11, new int[] {1, 20}, 1, 10);
        shares(due, 10000, new int[] {20, 19, 18, 17, 16, 15}, 1905, 1809, 1714, 1619, 1524, 1429);
        due.sentence("Promise 10", "Sharing out", "of equal ones to those that come first");
        shares(due, 1, new int[] {1, 1}, 1, 0);
        shares(due, 2, new int[] {7, 7, 7}, 1, 1, 0);
        shares(due, 5, new int[] {20, 20, 20, 20, 20, 20}, 1, 1, 1, 1, 1, 0);
        shares(due, 7, new int[] {1, 1, 1, 1, 1, 1}, 2, 1, 1, 1, 1, 1);
        shares(due, 9999, new int[] {1, 1}, 5000, 4999);
        shares(due, 3, new int[] {1, 1, 3}, 1, 0, 2);
        shares(due, 8, new int[] {1, 1, 3}, 2, 1, 5);
        shares(due, 5, new int[] {1, 1, 6}, 1, 0, 4);
    }

    private static void sharingByGrains(Due due) {
        due.sentence("Promise 18", "Sharing out", "To take x litres from a lot (at most its litres) means to share x by the litres of its grains, in their order");
        VineyardBlends x = withParts(5, 3, 2);
        x.blend(10, 1);
        due.is("1 of 5, 3, 2", x.bottle(3, 1, 100), 1);
        due.is("the greatest remainder", x.grain(3, 0, 3), 4);
        due.is("4 of 4, 3, 2", x.bottle(3, 4, 100), 4);
        int[] left = {2, 2, 1};
        for (int i = 0; i < 3; i++) {
            due.is("left of grain " + i, x.grain(3, i, 3), left[i]);
        }
        due.is("all 5", x.bottle(3, 5, 100), 5);
        due.is("the lot is gone", x.lot(3, 0), -4);
        VineyardBlends great = withParts(20, 1);
        great.blend(10000, 1);
        due.is("10000 of 10000", great.bottle(2, 10000, 100), 10000);
        due.is("the lot is gone", great.lot(2, 0), -4);

        due.sentence("Promise 18", "Sharing out", "and to take these from them; a grain without litres is gone");
        VineyardBlends y = withParts(1, 1, 1, 1);
        y.blend(4, 1);
        due.is("2 of 1, 1, 1, 1", y.bottle(4, 2, 100), 2);
        due.is("grains", y.lot(4, 1), 2);
        due.is("the first one left", y.grain(4, 0, 0), 2);
        due.is("the last one left", y.grain(4, 1, 0), 3);
        due.is("no share", y.share(4, 0, 0), 0);
        due.is("a half", y.share(4, 0, 2), 50);
    }

    private static void recipe(Due due) {
        due.sentence("Promise 9", "Blends", "There is a recipe, initially empty");
        due.is("lots in the recipe", new VineyardBlends().count(5), 0);
        due.is("mostLitres", Cellars.withLots(1).mostLitres(), -2);
        due.sentence("Promise 9", "lot: number of the lot");
        due.lotNumber("recipe(?, 5)", 1, v -> Cellars.withLotGone().recipe(v, 5));
        due.lotNumber("recipe(?, 0)", 0, v -> Cellars.withLotGone().recipe(v, 0));
        due.sentence("Promise 9", "parts: 0 to 20; 0 takes it out");
        due.range("recipe(0, ?)", 0, 0, 20, 1, v -> Cellars.withLotGone().recipe(0, v));
        VineyardBlends x = Cellars.withLots(2);
        x.recipe(0, 20);
        due.is("the most parts", x.lot(0, 8), 20);
        due.is("the least parts", x.recipe(0, 1), 1);
        due.is("the least parts", x.lot(0, 8), 1);
        due.is("0 takes it out", x.recipe(0, 0), 0);
        due.is("no parts", x.lot(0, 8), 0);
        due.is("0 for one that is not in it", x.recipe(1, 0), 0);

        due.sentence("Promise 9", "Returns how many lots the recipe has then");
        VineyardBlends many = Cellars.withLots(6);
        for (int lot = 0; lot < 6; lot++) {
            due.is("in", many.recipe(lot, 1), lot + 1);
        }
        for (int lot = 0; lot < 6; lot++) {
            due.is("out", many.recipe(lot, 0), 5 - lot);
        }
        due.sentence("Promise 9", "LIMIT_REACHED if the recipe would have 7 lots");
        VineyardBlends full = Cellars.fullOfLots();
        for (int i = 0; i < 6; i++) {
            due.is("lot " + 2 * i, full.recipe(2 * i, 1), i + 1);
        }
        due.is("a seventh lot", full.recipe(1, 1), -3);
        due.is("a seventh lot with 20 parts", full.recipe(11, 20), -3);
        due.is("0 parts for a lot that is not in it", full.recipe(1, 0), 6);
        due.is("other parts for one of the six", full.recipe(0, 20), 6);
        due.is("one out", full.recipe(10, 0), 5);
        due.is("one in", full.recipe(11, 20), 6);
        due.sentence("Promise 9", "Blends", "at most 6 lots, each with parts (1 to 20), in the order of their numbers");
        due.is("lots in the recipe", full.count(5), 6);
        VineyardBlends order = withParts(1, 1);
        order.recipe(0, 0);
        order.recipe(0, 1);
        due.is("lot 0 was put in last", order.blend(1, 1), 2);
        due.is("but gives first", order.lot(0, 0), 9999);
        due.is("lot 1", order.lot(1, 0), 10000);
    }

    private static void recipeOfLotsThatGo(Due due) {
        due.sentence("Promise 9", "Blends", "A lot that is gone leaves the recipe.");
        VineyardBlends x = Cellars.withLots(3);
        for (int i = 0; i < 3; i++) {
            x.recipe(i, 1);
        }
        due.is("bottled but for 1 litre", x.bottle(0, 9, 100), 9);
        due.is("it stays", x.count(5), 3);
        due.is("bottled", x.bottle(0, 1, 100), 1);
        due.is("it leaves", x.count(5), 2);
        due.is("all of both", x.blend(20, 1), 3);
        due.is("both leave", x.count(5), 0);
        due.is("no recipe", x.mostLitres(), -2);
        due.is("no recipe", x.blend(1, 1), -2);
        due.is("no recipe", x.ifBlend(1, 0), -2);
        due.is("a new lot is not in it", x.bring(1, 0, 2000, 0, 0, 0), 4);
        due.is("its parts", x.lot(4, 8), 0);
    }

    private static VineyardBlends simple() {
        return withParts(1);
    }

    private static void blend(Due due) {
        due.sentence("Promise 10", "litres: 1 to 10000");
        due.range("blend(?, 1)", 1, 1, 10000, 1, v -> simple().blend(v, 1));
        due.sentence("Promise 10", "kind: 0 for steel, 1 for oak");
        due.range("blend(5, ?)", 0, 1, 1, 1, v -> simple().blend(5, v));
        due.sentence("Promise 10", "Blends", "A blend of L litres (1 to 10000) shares L by the parts");
        shares(due, 1, new int[] {20, 20, 20, 20, 20, 20}, 1, 0, 0, 0, 0, 0);
        shares(due, 6, new int[] {1, 2, 3}, 1, 2, 3);
        shares(due, 10000, new int[] {20, 20, 20, 20, 20, 20}, 1667, 1667, 1667, 1667, 1666, 1666);
        due.sentence("Promise 10", "Returns the number of the new lot");
        VineyardBlends numbers = simple();
        for (int next = 1; next <= 5; next++) {
            due.is("blend", numbers.blend(1, 0), next);
        }
        due.sentence("Promise 10", "Blends", "The blend becomes a new lot, in steel or in oak.");
        VineyardBlends x = simple();
        due.is("in steel", x.blend(5, 0), 1);
        due.is("kind", x.lot(1, 5), 0);
        due.is("in oak", x.blend(5, 1), 2);
        due.is("kind", x.lot(2, 5), 1);
        due.is("no scores", x.lot(2, 7), 0);
        due.is("not in the recipe", x.lot(2, 8), 0);
        due.is("lots", x.count(0), 3);
        due.sentence("Promise 10", "Blends", "takes these from the lots of the recipe, and adds the same grains together");
        VineyardBlends y = Cellars.withLots(1);
        y.bring(10, 0, 2000, 0, 0, 0);
        y.bring(10, 0, 2000, 1, 0, 0);
        for (int i = 0; i < 3; i++) {
            y.recipe(i, 1);
        }
        due.is("blend", y.blend(30, 0), 3);
        due.is("two grains", y.lot(3, 1), 2);
        due.is("the same ones together", y.grain(3, 0, 3), 20);
        due.is("the other one", y.grain(3, 1, 3), 10);
        due.is("all lots are gone but the blend", y.count(0), 1);
    }

    private static int lost(int setting, int litres) {
        VineyardBlends x = simple();
        x.set(0, setting);
        return x.ifBlend(litres, 6);
    }

    private static void loss(Due due) {
        due.sentence("Promise 10", "Blends", "Of the whole, L * (the setting loss) / 1000 are lost");
        int[][] cases = {
            {0, 10000, 0}, {1, 999, 0}, {1, 1000, 1}, {10, 99, 0}, {10, 100, 1}, {10, 199, 1}, {10, 200, 2},
            {100, 9, 0}, {100, 10, 1}, {100, 10000, 1000}, {99, 10000, 990}, {100, 1, 0}
        };
        for (int[] each : cases) {
            due.is("of " + each[1] + " litres by " + each[0], lost(each[0], each[1]), each[2]);
        }
        VineyardBlends x = simple();
        x.set(0, 100);
        x.blend(19, 0);
        due.is("left of 19", x.lot(1, 0), 18);
        due.is("taken", x.lot(0, 0), 9981);
        due.is("account", x.account(1), 1);

        due.sentence("Promise 10", "Blends", "they are taken from it as from a lot");
        VineyardBlends y = withParts(1, 1, 2);
        y.set(0, 100);
        due.is("3, 3, 6 lose 1", y.blend(12, 1), 3);
        int[] left = {3, 3, 5};
        for (int i = 0; i < 3; i++) {
            due.is("grain " + i, y.grain(3, i, 3), left[i]);
        }
        due.is("10, 10, 20 lose 4: 1, 1, 2", y.blend(40, 1), 4);
        for (int i = 0; i < 3; i++) {
            due.is("grain " + i, y.grain(4, i, 3), i == 2 ? 18 : 9);
        }
        due.is("6, 6, 13 lose 2: remainders 12, 12, 1", y.blend(25, 1), 5);
        for (int i = 0; i < 3; i++) {
            due.is("grain " + i, y.grain(5, i, 3), new int[] {5, 6, 12}[i]);
        }

        due.sentence("Promise 10", "Blends", BEHIND);
        VineyardBlends one = simple();
        one.set(0, 100);
        due.is("the least blend with the greatest loss", one.blend(1, 1), 1);
        due.is("has 1 litre", one.lot(1, 0), 1);
        VineyardBlends ten = new VineyardBlends();
        ten.set(0, 100);
        ten.recipe(Cellars.blendOfGrains(ten, 1, 6), 1);
        due.is("5 of 6 single litres", ten.ifBlend(5, 0), 5);
        due.is("grains", ten.ifBlend(5, 1), 5);
    }

    /** 50 and 50 litres, of which one in a hundred is lost: 49 of 99 are of origin 0, and 50 of 99 of origin 1. */
    private static int halves(int loss, String rule) {
        VineyardBlends x = withParts(1, 1);
        x.set(0, loss);
        Cellars.rules(x, rule);
        return x.blend(100, 1);
    }

    private static void lossAndRules(Due due) {
        due.sentence("Promise 10", "Blends", BEHIND);
        due.is("50 percent without a loss", halves(0, "origin 0 least 50;"), 2);
        due.is("49 percent behind the loss", halves(10, "origin 0 least 50;"), -2);
        due.is("49 percent are kept", halves(10, "origin 0 least 49;"), 2);
        due.is("more than 49 percent without a loss", halves(0, "origin 0 most 49;"), -2);
        due.is("no more than 49 behind the loss", halves(10, "origin 0 most 49;"), 2);
        due.is("50 percent of the other", halves(10, "origin 1 least 50;"), 2);
        VineyardBlends x = new VineyardBlends();
        x.set(0, 0);
        int first = Cellars.blendOfGrains(x, 1, 5);
        int second = Cellars.blendOfGrains(x, 2, 5);
        x.recipe(first, 1);
        x.recipe(second, 1);
        due.is("10 grains without a loss", x.ifBlend(10, 1), 10);
        x.set(0, 99);
        due.is("10 grains with too little a loss", x.ifBlend(10, 1), 10);
        x.set(0, 100);
        due.is("9 grains behind the loss", x.ifBlend(10, 1), 9);
        due.is("9 litres", x.ifBlend(10, 0), 9);
    }

    private static void measures(Due due) {
        due.sentence("Promise 10", "Blends", "the sum over all lots of the recipe of (litres taken from it) * (its measure), divided by L");
        VineyardBlends x = new VineyardBlends();
        x.bring(10000, 0, 2000, 0, 1000, 0);
        x.bring(10000, 1, 2000, 0, 1001, 1);
        x.sweeten(1, 1);
        x.recipe(0, 1);
        x.recipe(1, 2);
        int[][] cases = {{3, 1000, 0, 0}, {1, 1001, 1, 1}, {2, 1000, 0, 0}, {10000, 1000, 0, 0}};
        for (int[] each : cases) {
            for (int what = 2; what < 5; what++) {
                due.is("ifBlend(" + each[0] + ", " + what + ")", x.ifBlend(each[0], what), each[what - 1]);
            }
        }
        x.set(0, 100);
        x.recipe(0, 0);
        due.is("by the litres ahead of the loss", x.ifBlend(10, 2), 1001);
        due.is("by the litres ahead of the loss", x.ifBlend(10000, 4), 1);
        VineyardBlends least = new VineyardBlends();
        least.bring(10000, 0, 2000, 0, 0, 0);
        least.recipe(0, 1);
        VineyardBlends greatest = new VineyardBlends();
        greatest.bring(10000, 0, 2000, 0, 2000, 200);
        greatest.sweeten(0, 500);
        greatest.recipe(0, 1);
        int[] most = {2000, 200, 500};
        for (int what = 2; what < 5; what++) {
            due.is("least: ifBlend(10000, " + what + ")", least.ifBlend(10000, what), 0);
            due.is("greatest: ifBlend(10000, " + what + ")", greatest.ifBlend(10000, what), most[what - 2]);
        }
        due.sentence("Promise 10", "Terms", "divisions are rounded down, if nothing else is said");
        VineyardBlends y = withParts(1, 19);
        y.sweeten(0, 19);
        due.is("19 / 20", y.ifBlend(20, 4), 0);
        y.sweeten(0, 20);
        due.is("20 / 20", y.ifBlend(20, 4), 1);
        y.sweeten(0, 39);
        due.is("39 / 20", y.ifBlend(20, 4), 1);
    }

    private static void notPossible(Due due) {
        due.sentence("Promise 10", "NOT_POSSIBLE if the recipe is empty, a lot has not as much as is taken from it, or the blend breaks a rule");
        VineyardBlends x = Cellars.withLots(2);
        due.is("the recipe is empty", x.blend(1, 1), -2);
        x.recipe(0, 1);
        due.is("11 of 10", x.blend(11, 1), -2);
        due.is("10 of 10", x.blend(10, 1), 2);
        x.undo();
        x.recipe(1, 1);
        due.is("11 and 10", x.blend(21, 1), -2);
        due.is("10 and 10", x.blend(20, 1), 2);
        x.undo();
        x.bottle(1, 1, 100);
        due.is("10 and 10 of 9", x.blend(20, 1), -2);
        due.is("10 and 9 of 9", x.blend(19, 1), 2);
        x.undo();
        Cellars.rules(x, "alcohol most 999;");
        due.is("the blend breaks the rule", x.blend(1, 1), -2);
        x.dropRule(0);
        Cellars.rules(x, "alcohol most 1000;");
        due.is("the blend keeps the rule", x.blend(1, 1), 2);
        VineyardBlends y = Cellars.withLots(2);
        y.sweeten(0, 2);
        Cellars.rules(y, "sugar most 1;origin 0 most 50;");
        y.recipe(0, 1);
        y.recipe(1, 1);
        due.is("lot 0 breaks both rules, the blend none", y.blend(2, 1), 2);
        due.is("the blend's rules", y.lot(2, 6), 0);
        due.is("the lot's rules", y.lot(0, 6), 3);
    }

    private static void mostLots(Due due) {
        String limit = "LIMIT_REACHED if behind the taking there would be more than 12 lots, 6 lots of this kind, or 200 grains (the blend counted)";
        due.sentence("Promise 10", limit);
        VineyardBlends x = Cellars.fullOfLots();
        x.recipe(0, 1);
        due.is("13 lots", x.blend(9, 0), -3);
        due.is("13 lots", x.blend(9, 1), -3);
        due.is("oak goes, but 7 in steel", x.blend(10, 0), -3);
        due.is("oak goes, 6 in oak", x.blend(10, 1), 12);
        due.is("12 lots", x.count(0), 12);
        x.recipe(1, 1);
        x.recipe(6, 1);
        due.is("one of each goes: 6 in steel", x.blend(20, 0), 13);
        due.is("11 lots", x.count(0), 11);
        due.is("5 in oak", x.count(2), 5);
        x.recipe(7, 1);
        due.is("7 in steel", x.blend(1, 0), -3);
        due.is("the twelfth lot, the sixth in oak", x.blend(1, 1), 14);
        due.is("12 lots", x.count(0), 12);

        VineyardBlends kind = Cellars.withLots(6);
        kind.recipe(3, 1);
        due.is("7 in steel, 7 lots", kind.blend(1, 0), -3);
        due.is("1 in oak", kind.blend(1, 1), 6);
        due.is("6 in steel, as one goes", kind.blend(9, 0), 7);
        VineyardBlends six = withParts(1);
        for (int i = 1; i < 6; i++) {
            due.is("lot " + i + " in steel", six.blend(1, 0), i);
        }
        due.is("7 in steel", six.blend(1, 0), -3);
        for (int i = 0; i < 6; i++) {
            due.is("to oak", six.blend(1, 1), 6 + i);
        }
        due.is("7 in oak", six.blend(1, 1), -3);
    }

    private static void mostGrains(Due due) {
        due.sentence("Promise 10", "LIMIT_REACHED if behind the taking there would be more than 12 lots, 6 lots of this kind, or 200 grains (the blend counted)");
        VineyardBlends x = Cellars.fullOfGrains();
        x.recipe(23, 1);
        due.is("201 grains", x.blend(1, 0), -3);
        due.is("all but a litre: 201 grains", x.blend(199, 0), -3);
        due.is("all: 200 grains", x.blend(200, 0), 33);
        due.is("grains", x.count(3), 200);
        x.bottle(24, 181, 100);
        due.is("a grain goes", x.count(3), 199);
        x.recipe(25, 1);
        due.is("201 grains", x.blend(2, 0), -3);
        due.is("200 grains", x.blend(1, 0), 34);
        due.is("grains", x.count(3), 200);

        due.sentence("Promise 10", "Blends", BEHIND);
        VineyardBlends y = Cellars.fullOfGrains();
        due.is("20 grains of 1 litre, but the last of 2", y.bottle(23, 179, 100), 179);
        due.is("the last one", y.grain(23, 19, 3), 2);
        due.is("the one ahead of it", y.grain(23, 18, 3), 1);
        y.recipe(23, 1);
        due.is("the last one is divided: 201 grains", y.blend(10, 0), -3);
        y.set(0, 99);
        due.is("no loss: 201 grains", y.blend(10, 0), -3);
        y.set(0, 100);
        due.is("a grain is lost: 200 grains", y.blend(10, 0), 33);
        due.is("grains", y.count(3), 200);
        due.is("grains of the blend", y.lot(33, 1), 9);
        due.is("grains of the rest", y.lot(23, 1), 11);
    }

    private static void ifBlend(Due due) {
        due.sentence("Promise 11", "litres: 1 to 10000");
        due.range("ifBlend(?, 2)", 1, 1000, 10000, 1000, v -> simple().ifBlend(v, 2));
        due.sentence("Promise 11", "what: 0: its litres; 1: its grains; 2: its alcohol; 3: its acid; 4: its sugar; 5: the rules that it breaks, as a bit mask; "
                + "6: the litres that are lost; 7: lots of the recipe of which nothing would be left");
        due.range("ifBlend(10000, ?)", 0, 10000, 7, 1, v -> simple().ifBlend(10000, v));
        VineyardBlends x = withParts(1, 1);
        x.set(0, 100);
        x.sweeten(0, 300);
        Cellars.rules(x, "acid most 49;acid least 50;alcohol least 1001;sugar most 149;");
        int[] all = {90, 2, 1000, 50, 150, 1 + 4 + 8, 10, 0};
        for (int what = 0; what < 8; what++) {
            due.is("ifBlend(100, " + what + ")", x.ifBlend(100, what), all[what]);
        }
        VineyardBlends six = Cellars.withLots(6);
        for (int i = 0; i < 6; i++) {
            six.recipe(i, 1);
        }
        due.is("nothing left of 6", six.ifBlend(60, 7), 6);
        due.is("nothing left of 5", six.ifBlend(59, 7), 5);
        due.is("1 left of each", six.ifBlend(54, 7), 0);
        due.is("nothing left of 1", six.ifBlend(55, 7), 1);
        due.is("grains", six.ifBlend(5, 1), 5);
        due.is("grains", six.ifBlend(6, 1), 6);
        six.recipe(0, 0);
        six.bottle(0, 10, 100);
        due.is("nothing left of the five that are in the recipe then", six.ifBlend(50, 7), 5);

        due.sentence("Promise 11", "Tells what a blend would be. Nothing changes.");
        VineyardBlends y = withParts(3, 2);
        String before = Snapshot.of(y);
        for (int what = 0; what < 8; what++) {
            y.ifBlend(10000, what);
        }
        due.is("state", Snapshot.of(y), before);
    }

    private static void ifBlendErrors(Due due) {
        due.sentence("Promise 11", "NOT_POSSIBLE if the recipe is empty, or a lot has not as much as would be taken from it");
        VineyardBlends x = Cellars.withLots(6);
        due.is("the recipe is empty", x.ifBlend(1, 0), -2);
        x.recipe(0, 2);
        x.recipe(1, 1);
        due.is("10 and 5", x.ifBlend(15, 0), 15);
        due.is("11 and 5", x.ifBlend(16, 0), -2);
        due.is("what comes ahead of it", x.ifBlend(16, 8), -1);
        due.is("10 lots in steel are no hindrance", x.ifBlend(15, 7), 1);
        Cellars.rules(x, "alcohol most 0;");
        due.is("rules are no hindrance", x.ifBlend(15, 0), 15);
        due.is("but broken", x.ifBlend(15, 5), 1);
        VineyardBlends full = Cellars.fullOfGrains();
        full.recipe(24, 1);
        due.is("grains are no hindrance", full.ifBlend(199, 1), 20);
        VineyardBlends lots = Cellars.fullOfLots();
        lots.recipe(6, 1);
        due.is("lots are no hindrance", lots.ifBlend(9, 0), 9);
    }

    private static int most(int[] litres, int[] parts) {
        VineyardBlends x = new VineyardBlends();
        for (int i = 0; i < litres.length; i++) {
            x.bring(litres[i], i, 2000, 0, 0, 0);
            x.recipe(i, parts[i]);
        }
        return x.mostLitres();
    }

    private static void mostLitres(Due due) {
        due.sentence("Promise 12", "Returns the greatest L, 1 to 10000, for which each lot has as much as is taken from it");
        due.is("1 litre", most(new int[] {1}, new int[] {20}), 1);
        due.is("20 parts of a litre", most(new int[] {1, 10000}, new int[] {20, 1}), 1);
        due.is("31 take 29.52 and 1.48", most(new int[] {10000, 1}, new int[] {20, 1}), 31);
        due.is("10000 litres", most(new int[] {10000}, new int[] {1}), 10000);
        due.is("no more than 10000", most(new int[] {10000, 10000}, new int[] {1, 1}), 10000);
        due.is("9999 litres", most(new int[] {9999}, new int[] {7}), 9999);
        due.is("exactly 10000", most(new int[] {5000, 5000}, new int[] {3, 3}), 10000);
        due.is("one less", most(new int[] {5000, 4999}, new int[] {3, 3}), 9999);
        due.is("the first one gives the odd litre", most(new int[] {4999, 5000}, new int[] {3, 3}), 9998);
        due.is("11, though not 10", most(new int[] {5, 5, 1}, new int[] {6, 6, 2}), 11);
        due.is("six single litres", most(new int[] {1, 1, 1, 1, 1, 1}, new int[] {9, 9, 9, 9, 9, 9}), 6);
        due.is("the last of six has less", most(new int[] {2, 2, 2, 2, 2, 1}, new int[] {1, 1, 1, 1, 1, 1}), 11);
        due.is("the first of six has less", most(new int[] {1, 2, 2, 2, 2, 2}, new int[] {1, 1, 1, 1, 1, 1}), 6);
        VineyardBlends x = new VineyardBlends();
        x.bring(10000, 0, 2000, 0, 0, 0);
        x.recipe(0, 20);
        x.bring(1, 1, 2000, 0, 0, 0);
        x.recipe(1, 1);
        int found = x.mostLitres();
        due.is("it can be taken", x.ifBlend(found, 7), 1);
        for (int litres = found + 1; litres <= found + 50; litres++) {
            due.is("more cannot: " + litres, x.ifBlend(litres, 0), -2);
        }
        due.sentence("Promise 12", "NOT_POSSIBLE if the recipe is empty");
        due.is("no lot", new VineyardBlends().mostLitres(), -2);
        due.is("no lot in it", Cellars.withLots(6).mostLitres(), -2);
        x.recipe(0, 0);
        due.is("one lot in it", x.mostLitres(), 1);
        x.recipe(1, 0);
        due.is("none left in it", x.mostLitres(), -2);
    }

    /** Lots 0 and 3 are there, with these measures; lot 1 is gone, and so is lot 2. */
    private static VineyardBlends two(int alcohol, int other) {
        VineyardBlends x = new VineyardBlends();
        x.bring(10, 0, 2000, 0, alcohol, 10);
        x.bring(10, 0, 2000, 0, 0, 0);
        x.bring(10, 0, 2000, 0, 0, 0);
        x.bring(10, 0, 2000, 0, other, 30);
        x.sweeten(3, 500);
        x.bottle(1, 10, 100);
        x.bottle(2, 10, 100);
        return x;
    }

    private static void partsFor(Due due) {
        due.sentence("Promise 13", "first: number of a lot");
        due.lotNumber("partsFor(?, 3, 0, 150)", 101, v -> two(100, 200).partsFor(v, 3, 0, 150));
        due.sentence("Promise 13", "second: number of another lot");
        due.lotNumber("partsFor(3, ?, 0, 150)", 101, v -> two(100, 200).partsFor(3, v, 0, 150));
        due.sentence("Promise 13", "what: 0: alcohol; 1: acid; 2: sugar");
        due.range("partsFor(0, 3, ?, 125)", 0, 301, 2, 301, v -> two(100, 200).partsFor(0, 3, v, 125));
        due.is("alcohol", two(100, 200).partsFor(0, 3, 0, 125), 301);
        due.is("acid", two(100, 200).partsFor(0, 3, 1, 15), 301);
        due.is("sugar", two(100, 200).partsFor(0, 3, 2, 100), 401);
        due.sentence("Promise 13", "aim: 0 to 2000");
        for (int what = 0; what < 3; what++) {
            int each = what;
            due.range("partsFor(0, 3, " + what + ", ?)", 0, 2001, 2000, 120, v -> two(0, 2000).partsFor(0, 3, each, v));
        }
        due.sentence("Promise 13", "INVALID_ARGUMENT if an argument is out of range, or both lots are the same; NOT_FOUND.");
        due.is("the same lot", two(0, 0).partsFor(0, 0, 0, 0), -1);
        due.is("the same lot that is gone", two(0, 0).partsFor(1, 1, 0, 0), -1);
        due.is("the same lot that has not come", two(0, 0).partsFor(9, 9, 0, 0), -1);
        due.is("lots that are gone and not come", two(0, 0).partsFor(1, 9, 0, 0), -4);
        due.is("lots alike", two(0, 0).partsFor(0, 3, 0, 0), 101);
    }

    private static void nearestParts(Due due) {
        due.sentence("Promise 13", "Finds the parts of two lots, 1 to 20 each");
        due.is("no parts of the second would be best", two(0, 2000).partsFor(0, 3, 0, 0), 2001);
        due.is("no parts of the first would be best", two(0, 2000).partsFor(0, 3, 0, 2000), 120);
        due.is("1 of 21", two(0, 2000).partsFor(0, 3, 0, 95), 2001);
        due.is("1 of 20", two(0, 2000).partsFor(0, 3, 0, 100), 1901);
        due.is("19 of 39", two(0, 1950).partsFor(0, 3, 0, 950), 2019);
        due.is("20 of 39", two(0, 1950).partsFor(0, 3, 0, 1000), 1920);
        due.is("beyond both", two(1000, 1100).partsFor(0, 3, 0, 1200), 120);
        due.is("short of both", two(1000, 1100).partsFor(0, 3, 0, 900), 2001);
        due.sentence("Promise 13", "as an exact fraction, comes nearest to an aim");
        due.is("1 / 2 and 20 / 39 are as near", two(0, 156).partsFor(0, 3, 0, 79), 101);
        due.is("20 / 39 is nearer than 1 / 2", two(0, 1560).partsFor(0, 3, 0, 791), 1920);
        due.is("1 / 2 is nearer than 20 / 39", two(0, 1560).partsFor(0, 3, 0, 789), 101);
        due.is("12 / 25 exactly", two(1000, 1100).partsFor(0, 3, 0, 1048), 1312);
        due.is("rounded down, all would be 0", two(0, 1).partsFor(0, 3, 0, 1), 120);
        for (int aim = 0; aim <= 400; aim++) {
            due.is("partsFor of 37 and 355 for " + aim, two(37, 355).partsFor(0, 3, 0, aim), nearest(37, 355, aim));
            due.is("partsFor of 1999 and 1600 for " + 5 * aim, two(1999, 1600).partsFor(0, 3, 0, 5 * aim), nearest(1999, 1600, 5 * aim));
        }
        due.sentence("Promise 13", "Returns 100 * a + b, of several that with the least a + b, then with the least a");
        due.is("all alike", two(700, 700).partsFor(0, 3, 0, 0), 101);
        due.is("1 and 1, not 20 and 20", two(700, 800).partsFor(0, 3, 0, 750), 101);
        due.is("1 and 2, not 6 and 12", two(700, 730).partsFor(0, 3, 0, 720), 102);
        due.is("of 1 / 2 and 20 / 39, which are as near", two(156, 0).partsFor(0, 3, 0, 77), 101);
    }

    /** By trying all parts in the order that the document gives, with exact fractions. */
    private static int nearest(int first, int second, int aim) {
        int best = 0;
        long off = 0;
        long under = 1;
        for (int sum = 2; sum <= 40; sum++) {
            for (int a = 1; a <= 20; a++) {
                int b = sum - a;
                if (b < 1 || b > 20) {
                    continue;
                }
                long thisOff = Math.abs((long) a * first + (long) b * second - (long) aim * sum);
                if (best == 0 || thisOff * under < off * sum) {
                    best = 100 * a + b;
                    off = thisOff;
                    under = sum;
                }
            }
        }
        return best;
    }
}
