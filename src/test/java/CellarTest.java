/** Promises 17 to 22: months, bottle, set, account, count, undo. */
public final class CellarTest {
    public static void main(String[] args) {
        Due due = new Due("time, bottles, accounts");
        months(due);
        monthsOverGrains(due);
        bottle(due);
        bottleAndRules(due);
        rejects(due);
        set(due);
        accounts(due);
        count(due);
        undo(due);
        everyChangeIsAState(due);
        errorsAreNoStates(due);
        due.end();
    }

    private static void months(Due due) {
        VineyardBlends x = new VineyardBlends();
        due.is("months(0)", x.months(0), -1);
        due.is("months(61)", x.months(61), -1);
        due.is("months(-5)", x.months(-5), -1);
        due.is("errors are no states", x.count(12), 0);
        due.is("nothing in oak", x.months(60), 0);
        due.is("is a change", x.count(12), 1);
        x.bring(1000, 0, 2000, 0, 700, 30);
        x.bring(1000, 0, 2000, 0, 0, 0);
        x.bring(399, 0, 2000, 0, 0, 0);
        x.move(0, 1);
        x.move(2, 1);
        due.is("5 of 1000, 1 of 399", x.months(1), 6);
        due.is("oak", x.lot(0, 0), 995);
        due.is("steel", x.lot(1, 0), 1000);
        due.is("oak", x.lot(2, 0), 398);
        due.is("4 of 995, 991, 987; 1 of 398, 397, 396", x.months(3), 15);
        due.is("oak", x.lot(0, 0), 983);
        due.is("oak", x.lot(2, 0), 395);
        due.is("the measures stay", x.lot(0, 2), 700);
        due.is("the acid stays", x.lot(0, 3), 30);
        due.is("evaporated", x.account(2), 21);
        x.set(2, 0);
        due.is("no evaporation", x.months(60), 0);
        x.set(2, 100);
        due.is("98 of 983, 39 of 395", x.months(1), 137);
        x.undo();
        due.is("behind undo", x.lot(0, 0), 983);
        due.is("evaporated", x.account(2), 21);
        x.months(60);
        due.is("what is too little to evaporate stays", x.lot(0, 0), 9);
        due.is("the sum", x.account(0), x.account(1) + x.account(2) + x.account(3) + x.account(4));
    }

    /** 10 litres of 5, 3, 1 and 1: a tenth is 1, of remainders 5, 3, 1, 1. */
    private static void monthsOverGrains(Due due) {
        VineyardBlends x = new VineyardBlends();
        x.set(0, 0);
        x.set(2, 100);
        int[] litres = {5, 3, 1, 1};
        for (int i = 0; i < 4; i++) {
            x.bring(litres[i], i, 2000, 0, 0, 0);
            x.recipe(i, litres[i]);
        }
        x.blend(10, 1);
        due.is("one month", x.months(1), 1);
        due.is("the greatest remainder", x.grain(4, 0, 3), 4);
        due.is("9 litres are too few", x.months(60), 0);
        due.is("4 grains", x.lot(4, 1), 4);

        VineyardBlends y = new VineyardBlends();
        y.set(0, 0);
        y.set(2, 100);
        for (int i = 0; i < 6; i++) {
            y.bring(2, i, 2000, 0, 0, 0);
            y.recipe(i, 1);
        }
        y.blend(12, 1);
        due.is("of equal grains the first one gives", y.months(1), 1);
        due.is("first grain", y.grain(6, 0, 3), 1);
        due.is("now the second one, whose remainder is greater", y.months(1), 1);
        due.is("first grain", y.grain(6, 0, 3), 1);
        due.is("second grain", y.grain(6, 1, 3), 1);
        due.is("third grain", y.grain(6, 2, 3), 2);

        VineyardBlends z = new VineyardBlends();
        z.set(0, 0);
        z.set(2, 100);
        for (int i = 0; i < 6; i++) {
            z.bring(1, i, 2000, 0, 0, 0);
            z.recipe(i, 1);
        }
        z.blend(6, 1);
        for (int i = 0; i < 4; i++) {
            z.bring(1, 0, 2001 + i, 0, 0, 0);
            z.recipe(7 + i, 1);
        }
        z.recipe(6, 6);
        z.blend(10, 1);
        due.is("10 grains", z.lot(11, 1), 10);
        due.is("a month", z.months(1), 1);
        due.is("a grain without litres is gone", z.lot(11, 1), 9);
        due.is("the first one", z.grain(11, 0, 1), 2001);
    }

    private static void bottle(Due due) {
        VineyardBlends x = new VineyardBlends();
        due.is("no lot", x.bottle(0, 1, 10), -4);
        x.bring(100, 3, 2000, 0, 0, 0);
        due.is("bottle(-1, 1, 10)", x.bottle(-1, 1, 10), -1);
        due.is("bottle(0, 0, 10)", x.bottle(0, 0, 10), -1);
        due.is("bottle(0, 10001, 10)", x.bottle(0, 10001, 10), -1);
        due.is("bottle(0, 1, 9)", x.bottle(0, 1, 9), -1);
        due.is("bottle(0, 1, 301)", x.bottle(0, 1, 301), -1);
        due.is("bottle(1, 1, 301)", x.bottle(1, 1, 301), -1);
        due.is("bottle(1, 1, 300)", x.bottle(1, 1, 300), -4);
        due.is("bottle(0, 101, 100)", x.bottle(0, 101, 100), -2);
        due.is("errors are no states", x.count(12), 1);
        due.is("1 litre in bottles of 300", x.bottle(0, 1, 300), 0);
        due.is("is left over", x.account(7), 100);
        due.is("but bottled", x.account(3), 1);
        due.is("and taken", x.lot(0, 0), 99);
        due.is("1 litre in bottles of 10", x.bottle(0, 1, 10), 10);
        due.is("8 litres in bottles of 75", x.bottle(0, 8, 75), 10);
        due.is("left over", x.account(7), 150);
        due.is("full bottles", x.account(5), 20);
        due.is("broken bottles", x.account(6), 0);
        due.is("bottled", x.account(3), 10);
        due.is("left", x.account(4), 90);
        x.score(0, 0, 100);
        x.recipe(0, 5);
        due.is("all that is left", x.bottle(0, 90, 100), 90);
        due.is("the lot is gone", x.lot(0, 0), -4);
        due.is("and not in the recipe", x.count(5), 0);
        due.is("and not in the ranking", x.ranked(0), -4);
        due.is("no lots", x.count(0), 0);
        due.is("no grains", x.count(3), 0);
        due.is("next number", x.count(6), 1);
        x.undo();
        due.is("the lot is back", x.lot(0, 0), 90);
        due.is("with its recipe", x.lot(0, 8), 5);
        due.is("with its score", x.panel(0, 0), 100);
        due.is("full bottles", x.account(5), 20);
    }

    /** The rule is kept ahead of the taking, and that is what counts. */
    private static void bottleAndRules(Due due) {
        VineyardBlends x = new VineyardBlends();
        x.set(0, 0);
        x.bring(1, 0, 2000, 0, 0, 0);
        x.bring(3, 1, 2000, 0, 0, 0);
        x.recipe(0, 1);
        x.recipe(1, 3);
        x.blend(4, 0);
        Cellars.rules(x, "origin 0 most 25;");
        due.is("the rule is kept", x.lot(2, 6), 0);
        due.is("so it is bottled", x.bottle(2, 1, 100), 1);
        due.is("1 of 3 litres is of origin 0", x.share(2, 0, 0), 33);
        due.is("the rule is broken now", x.lot(2, 6), 1);
        due.is("so it is not bottled", x.bottle(2, 1, 100), -2);
        due.is("3 litres are left", x.lot(2, 0), 3);
        x.dropRule(0);
        due.is("without the rule", x.bottle(2, 3, 100), 3);
    }

    private static void rejects(Due due) {
        VineyardBlends x = new VineyardBlends();
        x.bring(1000, 0, 2000, 0, 0, 0);
        x.set(3, 7);
        due.is("bottles 7, 14 of 20", x.bottle(0, 20, 100), 18);
        due.is("broken", x.account(6), 2);
        due.is("bottles 7, 14 again: each call is a run", x.bottle(0, 20, 100), 18);
        due.is("broken", x.account(6), 4);
        due.is("no seventh bottle", x.bottle(0, 6, 100), 6);
        due.is("a seventh bottle", x.bottle(0, 7, 100), 6);
        x.set(3, 1);
        due.is("all are broken", x.bottle(0, 3, 100), 0);
        due.is("broken", x.account(6), 8);
        due.is("full", x.account(5), 48);
        x.set(3, 1000);
        due.is("1 of 1000", x.bottle(0, 100, 10), 999);
        x.set(3, 0);
        due.is("none", x.bottle(0, 100, 10), 1000);
        due.is("broken", x.account(6), 9);
        due.is("full", x.account(5), 2047);
        due.is("left over", x.account(7), 0);
    }

    private static void set(Due due) {
        VineyardBlends x = new VineyardBlends();
        int[] initial = {10, 40, 5, 0};
        int[] greatest = {100, 200, 100, 1000};
        due.is("set(-1, 0)", x.set(-1, 0), -1);
        due.is("set(4, 0)", x.set(4, 0), -1);
        for (int what = 0; what < 4; what++) {
            due.is("set(" + what + ", -1)", x.set(what, -1), -1);
            due.is("set(" + what + ", above)", x.set(what, greatest[what] + 1), -1);
        }
        due.is("errors are no states", x.count(12), 0);
        for (int what = 0; what < 4; what++) {
            due.is("set(" + what + ", greatest)", x.set(what, greatest[what]), initial[what]);
            due.is("count(" + (7 + what) + ")", x.count(7 + what), greatest[what]);
            due.is("set(" + what + ", 0)", x.set(what, 0), greatest[what]);
            due.is("count(" + (7 + what) + ")", x.count(7 + what), 0);
        }
        due.is("a setting that stays is a change", x.set(3, 0), 0);
        x.undo();
        x.undo();
        due.is("behind undo", x.count(10), 1000);
    }

    private static void accounts(Due due) {
        VineyardBlends x = new VineyardBlends();
        due.is("account(-1)", x.account(-1), -1);
        due.is("account(8)", x.account(8), -1);
        x.set(0, 100);
        x.set(2, 100);
        x.set(3, 2);
        x.bring(100, 0, 2000, 0, 0, 0);
        x.bring(200, 1, 2000, 0, 0, 0);
        x.recipe(0, 1);
        x.recipe(1, 1);
        due.is("5 + 5 - 1", x.blend(10, 1), 2);
        x.blend(100, 1);
        due.is("0 of 9, 9 of 90", x.months(1), 9);
        due.is("1066 / 100", x.bottle(1, 17, 75), 11);
        int[] all = {300, 11, 9, 17, 263, 11, 11, 50};
        for (int what = 0; what < all.length; what++) {
            due.is("account(" + what + ")", x.account(what), all[what]);
        }
        x.undo();
        int[] before = {300, 11, 9, 0, 280, 0, 0, 0};
        for (int what = 0; what < before.length; what++) {
            due.is("behind undo: account(" + what + ")", x.account(what), before[what]);
        }
    }

    private static void count(Due due) {
        VineyardBlends x = new VineyardBlends();
        due.is("count(-1)", x.count(-1), -1);
        due.is("count(14)", x.count(14), -1);
        for (int i = 0; i < 5; i++) {
            x.bring(10, i, 2000, 0, 0, 0);
        }
        x.move(1, 1);
        x.move(2, 1);
        x.recipe(0, 1);
        x.recipe(1, 1);
        x.recipe(3, 1);
        x.blend(9, 1);
        x.score(4, 0, 10);
        x.bottle(4, 10, 10);
        x.score(3, 1, 10);
        Cellars.rules(x, "acid least 0;acid least 1;");
        int[] all = {5, 2, 3, 7, 2, 3, 6, 10, 40, 5, 0, 1, 4, 26};
        for (int what = 0; what < all.length; what++) {
            due.is("count(" + what + ")", x.count(what), all[what]);
        }
    }

    private static void undo(Due due) {
        VineyardBlends x = new VineyardBlends();
        due.is("nothing to undo", x.undo(), -2);
        for (int i = 0; i < 6; i++) {
            x.bring(10 + i, i, 2000, 0, 0, 0);
            due.is("states", x.count(12), Math.min(4, i + 1));
        }
        for (int i = 3; i >= 0; i--) {
            due.is("undo", x.undo(), i);
            due.is("lots", x.count(0), 2 + i);
            due.is("litres of the last lot", x.lot(1 + i, 0), 11 + i);
            due.is("next number", x.count(6), 2 + i);
            due.is("brought", x.account(0), x.account(4));
        }
        due.is("nothing more to undo", x.undo(), -2);
        due.is("lots", x.count(0), 2);
        due.is("a new lot", x.bring(1, 0, 2000, 0, 0, 0), 2);
        due.is("states", x.count(12), 1);
        Cellars.text(x, "abc");
        due.is("undo", x.undo(), 0);
        due.is("the text stays", x.count(13), 3);
        x.sweeten(0, 1);
        x.sweeten(0, 2);
        x.undo();
        x.sweeten(0, 3);
        due.is("states", x.count(12), 2);
        x.undo();
        due.is("sugar", x.lot(0, 4), 1);
        x.undo();
        due.is("sugar", x.lot(0, 4), 0);
        due.is("undo is no change", x.count(12), 0);
    }

    /** Each change stands on a cellar that is undone to its beginning. */
    private static void everyChangeIsAState(Due due) {
        VineyardBlends x = new VineyardBlends();
        Cellars.text(x, "acid least 0;");
        for (int change = 0; change < 11; change++) {
            while (x.count(12) > 0) {
                x.undo();
            }
            int states = prepare(x, change);
            due.is("change " + change, change(x, change) >= 0 ? 1 : 0, 1);
            due.is("states by change " + change, x.count(12), states + 1);
            due.is("undo of change " + change, x.undo(), states);
        }
    }

    private static int prepare(VineyardBlends x, int change) {
        if (change != 0) {
            x.bring(10, 0, 2000, 0, 0, 0);
        }
        if (change == 4) {
            x.recipe(0, 1);
        }
        if (change == 10) {
            x.read();
        }
        return x.count(12);
    }

    private static int change(VineyardBlends x, int change) {
        switch (change) {
            case 0:
                return x.bring(10, 0, 2000, 0, 0, 0);
            case 1:
                return x.sweeten(0, 0);
            case 2:
                return x.move(0, 1);
            case 3:
                return x.recipe(0, 0);
            case 4:
                return x.blend(5, 0);
            case 5:
                return x.score(0, 0, -1);
            case 6:
                return x.months(1);
            case 7:
                return x.bottle(0, 1, 300);
            case 8:
                return x.set(0, 10);
            case 9:
                return x.read();
            default:
                return x.dropRule(0);
        }
    }

    private static void errorsAreNoStates(Due due) {
        VineyardBlends x = new VineyardBlends();
        x.bring(10, 0, 2000, 0, 0, 0);
        x.recipe(0, 1);
        Cellars.text(x, "acid");
        int states = x.count(12);
        due.is("read", x.read(), -2);
        due.is("dropRule", x.dropRule(0), -4);
        due.is("dropRule", x.dropRule(-1), -1);
        due.is("blend", x.blend(11, 0), -2);
        due.is("bottle", x.bottle(0, 11, 100), -2);
        due.is("move", x.move(0, 0), -2);
        due.is("bring", x.bring(0, 0, 2000, 0, 0, 0), -1);
        due.is("score", x.score(1, 0, 0), -4);
        due.is("recipe", x.recipe(1, 0), -4);
        due.is("months", x.months(0), -1);
        due.is("set", x.set(0, 101), -1);
        due.is("sweeten", x.sweeten(1, 1), -4);
        due.is("questions are no changes", x.ifBlend(5, 0) + x.mostLitres(), 15);
        due.is("states", x.count(12), states);
    }
}
