/** The sentences of the document that name bounds of time, bottles, settings, accounts and history: promises 17 to 22. */
public final class CellarBoundsTest {
    public static void main(String[] args) {
        Due due = new Due("bounds of time, bottles, accounts");
        months(due);
        evaporation(due);
        manyMonths(due);
        bottle(due);
        bottleErrors(due);
        fullBottles(due);
        brokenBottles(due);
        set(due);
        account(due);
        accounts(due);
        count(due);
        mostOfAll(due);
        undo(due);
        mostStates(due);
        due.end();
    }

    /** One lot of one grain, in oak. */
    private static VineyardBlends inOak(int litres, int evaporation) {
        VineyardBlends x = new VineyardBlends();
        x.bring(litres, 0, 2000, 0, 1000, 50);
        x.move(0, 1);
        x.set(2, evaporation);
        return x;
    }

    private static void months(Due due) {
        due.sentence("Promise 17", "months: 1 to 60");
        due.range("months(?)", 1, 5, 60, 231, v -> inOak(1000, 5).months(v));
        due.sentence("Promise 17", "Lets months go by.");
        VineyardBlends once = inOak(10000, 37);
        VineyardBlends each = inOak(10000, 37);
        int sum = 0;
        for (int month = 0; month < 60; month++) {
            sum += each.months(1);
        }
        due.is("60 months at once, or each alone", once.months(60), sum);
        due.is("litres", once.lot(0, 0), each.lot(0, 0));
        due.is("account", once.account(2), sum);
        due.sentence("Promise 17", "Returns the litres that evaporate");
        due.is("no lots", new VineyardBlends().months(60), 0);
        due.is("nothing in oak", Cellars.withLots(6).months(60), 0);
        due.is("nothing evaporates", inOak(10000, 0).months(60), 0);
        due.is("a tenth of 10000", inOak(10000, 100).months(1), 1000);
    }

    private static void evaporation(Due due) {
        due.sentence("Promise 17", "Panel", "In a month, by ascending numbers, each lot in oak loses litres * (the setting evaporation) / 1000, taken from it.");
        int[][] cases = {
            {199, 5, 0}, {200, 5, 1}, {399, 5, 1}, {400, 5, 2}, {9, 100, 0}, {10, 100, 1}, {19, 100, 1}, {20, 100, 2},
            {999, 1, 0}, {1000, 1, 1}, {10000, 1, 10}, {10000, 99, 990}, {1, 100, 0}, {10000, 0, 0}
        };
        for (int[] each : cases) {
            VineyardBlends x = inOak(each[0], each[1]);
            due.is("of " + each[0] + " litres by " + each[1], x.months(1), each[2]);
            due.is("left of " + each[0], x.lot(0, 0), each[0] - each[2]);
        }
        VineyardBlends x = Cellars.fullOfLots();
        x.set(2, 100);
        due.is("six lots in oak", x.months(1), 6);
        for (int lot = 0; lot < 12; lot++) {
            due.is("left of lot " + lot, x.lot(lot, 0), lot < 6 ? 9 : 10);
        }
        VineyardBlends y = new VineyardBlends();
        y.set(0, 0);
        y.set(2, 100);
        for (int i = 0; i < 4; i++) {
            y.recipe(y.bring(3, i, 2000, 0, 0, 0), 1);
        }
        y.blend(12, 1);
        due.is("1 of 3, 3, 3, 3", y.months(1), 1);
        due.is("from the first grain", y.grain(4, 0, 3), 2);
        due.is("1 of 2, 3, 3, 3", y.months(1), 1);
        due.is("not from the first grain", y.grain(4, 0, 3), 2);
        due.is("from the second one", y.grain(4, 1, 3), 2);
        due.is("1 of 2, 2, 3, 3", y.months(1), 1);
        due.is("from the third one", y.grain(4, 2, 3), 2);
        due.is("9 litres lose nothing", y.months(1), 0);
    }

    private static void manyMonths(Due due) {
        due.sentence("Promise 17", "Lots", "a lot without litres is gone");
        VineyardBlends x = inOak(1, 100);
        due.is("1 litre", x.months(60), 0);
        due.is("never goes", x.lot(0, 0), 1);
        VineyardBlends y = inOak(10000, 100);
        int left = 10000;
        for (int month = 0; month < 60; month++) {
            left -= left * 100 / 1000;
        }
        due.is("60 months", y.months(60), 10000 - left);
        due.is("60 more", y.months(60), left - 9);
        due.is("9 litres are left", y.lot(0, 0), 9);
        due.is("60 more", y.months(60), 0);
    }

    private static VineyardBlends one(int litres) {
        VineyardBlends x = new VineyardBlends();
        x.bring(litres, 0, 2000, 0, 1000, 50);
        return x;
    }

    private static void bottle(Due due) {
        due.sentence("Promise 18", "lot: number of the lot");
        due.lotNumber("bottle(?, 3, 100)", 3, v -> Cellars.withLotGone().bottle(v, 3, 100));
        due.sentence("Promise 18", "litres: 1 to 10000");
        due.range("bottle(0, ?, 100)", 1, 1, 10000, 10000, v -> one(10000).bottle(0, v, 100));
        due.sentence("Promise 18", "size: 10 to 300");
        due.range("bottle(0, 30, ?)", 10, 300, 300, 10, v -> one(10000).bottle(0, 30, v));
        due.sentence("Promise 18", "Returns the full bottles that are not broken");
        VineyardBlends broken = one(10000);
        broken.set(3, 2);
        due.is("none of none", broken.bottle(0, 1, 101), 0);
        due.is("1 of 1", broken.bottle(0, 1, 100), 1);
        due.is("1 of 2", broken.bottle(0, 2, 100), 1);
        due.is("2 of 3", broken.bottle(0, 3, 100), 2);
        due.sentence("Promise 18", "Panel", "A run bottles litres of a lot, taken from it, in bottles of a size (10 to 300 centilitres)");
        VineyardBlends x = one(10000);
        x.bottle(0, 9999, 10);
        due.is("a litre is left", x.lot(0, 0), 1);
        x.bottle(0, 1, 300);
        due.is("the lot is gone", x.lot(0, 0), -4);
        due.is("bottled", x.account(3), 10000);
    }

    private static void bottleErrors(Due due) {
        due.sentence("Promise 18", "NOT_POSSIBLE if the lot has less, or breaks a rule (as it is ahead of the taking)");
        due.is("9 of 9", one(9).bottle(0, 9, 100), 9);
        due.is("10 of 9", one(9).bottle(0, 10, 100), -2);
        due.is("10000 of 9999", one(9999).bottle(0, 10000, 100), -2);
        VineyardBlends x = one(10);
        Cellars.rules(x, "alcohol most 999;");
        due.is("a rule is broken", x.bottle(0, 1, 100), -2);
        due.is("litres", x.lot(0, 0), 10);
        x.dropRule(0);
        Cellars.rules(x, "alcohol most 1000;alcohol least 1000;");
        due.is("rules are kept", x.bottle(0, 1, 100), 1);
        VineyardBlends y = new VineyardBlends();
        y.set(0, 0);
        int lot = Cellars.blendOfGrains(y, 0, 3);
        Cellars.rules(y, "year 2000 least 33;");
        due.is("kept ahead of the taking: 33 percent", y.bottle(lot, 1, 100), 1);
        due.is("broken behind it: 0 percent", y.lot(lot, 6), 1);
        due.is("broken ahead of the next", y.bottle(lot, 1, 100), -2);
        VineyardBlends z = new VineyardBlends();
        z.set(0, 0);
        int other = Cellars.blendOfGrains(z, 0, 3);
        Cellars.rules(z, "year 2001 least 50;");
        due.is("broken ahead of the taking: 33 percent", z.bottle(other, 1, 100), -2);
    }

    private static void fullBottles(Due due) {
        due.sentence("Promise 18", "Panel", "of the litres * 100 centilitres there are as many full bottles as there can be; what is left over is told");
        int[][] cases = {
            {1, 10, 10, 0}, {1, 300, 0, 100}, {2, 300, 0, 200}, {3, 300, 1, 0}, {1, 99, 1, 1}, {1, 100, 1, 0}, {1, 101, 0, 100},
            {10000, 10, 100000, 0}, {10000, 300, 3333, 100}, {10000, 299, 3344, 144}, {20, 75, 26, 50}, {7, 233, 3, 1}
        };
        for (int[] each : cases) {
            VineyardBlends x = one(10000);
            String run = each[0] + " litres in bottles of " + each[1];
            due.is(run, x.bottle(0, each[0], each[1]), each[2]);
            due.is("full by " + run, x.account(5), each[2]);
            due.is("left over by " + run, x.account(7), each[3]);
            due.is("bottled by " + run, x.account(3), each[0]);
        }
    }

    private static int run(int reject, int litres, int size) {
        VineyardBlends x = one(10000);
        x.set(3, reject);
        return x.bottle(0, litres, size);
    }

    private static void brokenBottles(Due due) {
        due.sentence("Promise 18", "Panel", "Every bottle whose number, from 1 on over the whole run (each call is a run), is divisible by the setting reject "
                + "(if this is above 0) is broken.");
        due.is("none by 0", run(0, 10, 100), 10);
        due.is("all by 1", run(1, 10, 100), 0);
        due.is("the last one by 10", run(10, 10, 100), 9);
        due.is("none by 11", run(11, 10, 100), 10);
        due.is("none of 9 by 10", run(10, 9, 100), 9);
        due.is("one of 19 by 10", run(10, 19, 100), 18);
        due.is("two of 20 by 10", run(10, 20, 100), 18);
        due.is("none of 999 by 1000", run(1000, 999, 100), 999);
        due.is("one of 1000 by 1000", run(1000, 1000, 100), 999);
        due.is("no bottle that is not full", run(1, 1, 300), 0);
        due.is("100 of 100000 by 1000", run(1000, 10000, 10), 99900);
        VineyardBlends x = one(10000);
        x.set(3, 4);
        for (int run = 1; run <= 3; run++) {
            due.is("3 of 4 in run " + run, x.bottle(0, 3, 100), 3);
        }
        due.is("no bottle is a fourth one of its run", x.account(6), 0);
        due.is("the fourth one", x.bottle(0, 4, 100), 3);
        due.is("broken", x.account(6), 1);
        due.is("full", x.account(5), 12);
        x.set(3, 1);
        x.bottle(0, 1, 300);
        due.is("what is left over is no bottle", x.account(6), 1);
        due.is("left over", x.account(7), 100);
    }

    private static void set(Due due) {
        due.sentence("Promise 19", "what: 0 to 3");
        due.range("set(?, 7)", 0, 10, 3, 0, v -> new VineyardBlends().set(v, 7));
        int[] greatest = {100, 200, 100, 1000};
        int[] initial = {10, 40, 5, 0};
        due.sentence("Promise 19", "value: a value in its range");
        for (int what = 0; what < 4; what++) {
            int each = what;
            due.range("set(" + what + ", ?)", 0, initial[what], greatest[what], initial[what], v -> new VineyardBlends().set(each, v));
        }
        due.sentence("Promise 19", "Panel", "The settings are 0 loss 0 to 100, 10; 1 span 0 to 200, 40; 2 evaporation 0 to 100, 5; 3 reject 0 to 1000, 0 "
                + "(in each case the range and the initial value).");
        VineyardBlends fresh = new VineyardBlends();
        for (int what = 0; what < 4; what++) {
            due.is("initial value of " + what, fresh.count(7 + what), initial[what]);
            due.is("more than the greatest value of " + what, fresh.set(what, greatest[what] + 1), -1);
            due.is("it stays", fresh.count(7 + what), initial[what]);
            due.is("the greatest value of " + what, fresh.set(what, greatest[what]), initial[what]);
            due.is("it is set", fresh.count(7 + what), greatest[what]);
        }
        due.sentence("Promise 19", "Returns the previous value");
        VineyardBlends x = new VineyardBlends();
        for (int what = 0; what < 4; what++) {
            due.is("the initial one", x.set(what, greatest[what]), initial[what]);
            due.is("the greatest one", x.set(what, 0), greatest[what]);
            due.is("the least one", x.set(what, 1), 0);
            due.is("the same", x.set(what, 1), 1);
            due.is("now", x.count(7 + what), 1);
        }
    }

    private static void account(Due due) {
        due.sentence("Promise 20", "what: 0 to 7");
        due.range("account(?)", 0, 100, 7, 50, v -> {
            VineyardBlends x = one(100);
            x.bottle(0, 20, 75);
            return x.account(v);
        });
        due.sentence("Promise 20", "Accounts", "0 litres brought; 1 lost by blending; 2 evaporated; 3 bottled; 4 left in all lots (0 is the sum of 1 to 4); "
                + "5 full bottles that are not broken; 6 broken bottles; 7 centilitres left over.");
        for (int what = 0; what < 8; what++) {
            due.is("new: account(" + what + ")", new VineyardBlends().account(what), 0);
        }
        VineyardBlends x = one(9000);
        x.bring(1000, 1, 2000, 0, 0, 0);
        x.set(0, 100);
        x.set(2, 50);
        x.set(3, 26);
        x.recipe(0, 9);
        x.recipe(1, 1);
        x.blend(10000, 1);
        x.months(1);
        x.bottle(2, 20, 75);
        int[] all = {10000, 1000, 450, 20, 8530, 25, 1, 50};
        for (int what = 0; what < 8; what++) {
            due.is("account(" + what + ")", x.account(what), all[what]);
        }
        x.bottle(2, 8530, 75);
        int[] atLast = {10000, 1000, 450, 8550, 0, 25 + 11373 - 437, 1 + 437, 75};
        for (int what = 0; what < 8; what++) {
            due.is("nothing left: account(" + what + ")", x.account(what), atLast[what]);
        }
    }

    private static void accounts(Due due) {
        due.sentence("Promise 20", "What it is", "litres add up with all losses");
        VineyardBlends x = new VineyardBlends();
        x.set(0, 100);
        x.set(2, 100);
        for (int round = 0; round < 12; round++) {
            int lot = x.bring(10000 - round, round % 8, 2000 + round, 0, 0, 0);
            x.recipe(lot, 1 + round);
            int blend = x.blend(7777 + 11 * round, round % 2);
            x.months(1 + round);
            x.bottle(lot, 100 + round, 10 + round);
            x.bottle(blend, 333 - round, 300 - round);
            x.recipe(lot, 0);
            x.bottle(lot, x.lot(lot, 0), 75);
            x.bottle(blend, x.lot(blend, 0) - round, 150);
            due.is("round " + round, x.account(1) + x.account(2) + x.account(3) + x.account(4), x.account(0));
        }
        due.is("brought", x.account(0), 120000 - 66);
        due.is("greater than one lot can hold", x.account(3) > 10000 ? 1 : 0, 1);
    }

    private static void count(Due due) {
        due.sentence("Promise 21", "what: 0: lots; 1: lots in steel; 2: lots in oak; 3: grains of all lots; 4: rules; 5: lots in the recipe; "
                + "6: the number that the next lot gets; 7 to 10: the settings 0 to 3; 11: lots with scores; 12: states in the history; 13: the length of the text");
        due.range("count(?)", 0, 1, 13, 0, v -> one(5).count(v));
        int[] fresh = {0, 0, 0, 0, 0, 0, 0, 10, 40, 5, 0, 0, 0, 0};
        VineyardBlends x = new VineyardBlends();
        for (int what = 0; what < 14; what++) {
            due.is("new: count(" + what + ")", x.count(what), fresh[what]);
        }
    }

    private static void mostOfAll(Due due) {
        due.sentence("Promise 21", "Returns a number.");
        VineyardBlends x = Cellars.fullOfLots();
        int[] greatest = {100, 200, 100, 1000};
        for (int what = 0; what < 4; what++) {
            x.set(what, greatest[what]);
        }
        for (int lot = 0; lot < 12; lot++) {
            x.score(lot, 7, 0);
        }
        for (int lot = 0; lot < 6; lot++) {
            x.recipe(lot, 20);
        }
        Cellars.rules(x, "acid least 1;acid least 2;acid least 3;acid least 4;acid least 5;acid least 6;");
        Cellars.rules(x, "acid least 7;acid least 8;");
        Cellars.text(x, "~".repeat(100));
        int[] most = {12, 6, 6, 12, 8, 6, 12, 100, 200, 100, 1000, 12, 4, 100};
        for (int what = 0; what < 14; what++) {
            due.is("the most: count(" + what + ")", x.count(what), most[what]);
        }
        due.is("the most grains", Cellars.fullOfGrains().count(3), 200);
    }

    private static void undo(Due due) {
        due.sentence("Promise 22", "NOT_POSSIBLE if it is empty");
        due.is("new", new VineyardBlends().undo(), -2);
        VineyardBlends x = one(5);
        due.is("the one state", x.undo(), 0);
        due.is("none is left", x.undo(), -2);
        due.is("nor then", x.undo(), -2);
        due.is("lots", x.count(0), 0);
        due.sentence("Promise 22", "Restores the latest state of the history, which is removed from it.");
        VineyardBlends y = one(5);
        y.sweeten(0, 10);
        y.sweeten(0, 20);
        due.is("undo", y.undo(), 2);
        due.is("sugar", y.lot(0, 4), 10);
        due.is("states", y.count(12), 2);
        y.sweeten(0, 30);
        due.is("undo", y.undo(), 2);
        due.is("not 20, which is removed", y.lot(0, 4), 10);
        due.is("undo", y.undo(), 1);
        due.is("sugar", y.lot(0, 4), 0);
        due.sentence("Promise 22", "Returns the number of states that are left in the history");
        due.is("the last one", y.undo(), 0);
        VineyardBlends z = Cellars.withLots(6);
        for (int left = 3; left >= 0; left--) {
            due.is("left", z.undo(), left);
        }
        due.is("none left", z.undo(), -2);
        due.is("the two oldest lots", z.count(0), 2);
    }

    private static void mostStates(Due due) {
        due.sentence("Promise 22", "Changes and errors", "A history of at most 4 states is kept: each change records everything before it but the text, "
                + "and if there are 5 states then, the oldest one is dropped.");
        for (int changes = 0; changes <= 9; changes++) {
            VineyardBlends x = new VineyardBlends();
            for (int i = 1; i <= changes; i++) {
                x.set(1, i);
                due.is("states behind change " + i, x.count(12), Math.min(i, 4));
            }
            for (int back = 1; back <= Math.min(changes, 4); back++) {
                due.is("states left", x.undo(), Math.min(changes, 4) - back);
                due.is("the span behind " + (changes - back) + " changes", x.count(8), changes == back ? 40 : changes - back);
            }
            due.is("no more", x.undo(), -2);
        }
        VineyardBlends x = one(5);
        Cellars.text(x, "acid most 5;");
        x.read();
        Cellars.text(x, "acid");
        due.is("undo", x.undo(), 1);
        due.is("the text is not undone", x.count(13), 4);
        due.is("the rules are", x.count(4), 0);
    }
}
