/** The sentences of the document that name no bound: what it is, the terms, and what the calls return; all promises. */
public final class WordsTest {
    public static void main(String[] args) {
        Due due = new Due("words without bounds");
        whatItIs(due);
        manyCalls(due);
        terms(due);
        sharingOut(due);
        measures(due);
        errors(due);
        propertiesOfLots(due);
        whatBlendsReturn(due);
        parts(due);
        whatPanelsReturn(due);
        whatCellarsReturn(due);
        whatRulesReturn(due);
        due.end();
    }

    private static void whatItIs(Due due) {
        due.sentence("Promise 10", "What it is", "A vineyard cellar: lots of wine with origins and measures are blended by whole parts, exactly to the litre, "
                + "within rules on origins and measures;");
        VineyardBlends x = new VineyardBlends();
        x.set(0, 0);
        x.bring(71, 1, 2020, 3, 1200, 60);
        x.bring(31, 2, 2021, 3, 1000, 80);
        x.recipe(0, 7);
        x.recipe(1, 3);
        due.is("101 litres of 70.7 and 30.3", x.blend(101, 1), 2);
        due.is("of lot 0", x.lot(0, 0), -4);
        due.is("of lot 1", x.lot(1, 0), 1);
        due.is("of the first origin", x.grain(2, 0, 3), 71);
        due.is("of the second origin", x.grain(2, 1, 3), 30);
        x.undo();
        Cellars.rules(x, "origin 1 most 69;");
        due.is("a rule on origins", x.blend(101, 1), -2);
        x.dropRule(0);
        Cellars.rules(x, "alcohol least 1141;");
        due.is("a rule on measures", x.blend(101, 1), -2);
        x.dropRule(0);
        due.is("no rule", x.blend(101, 1), 2);

        due.sentence("Promise 15", "What it is", "panels of tasters score lots, with outliers left out;");
        x.score(2, 0, 100);
        x.score(2, 1, 101);
        x.score(2, 2, 200);
        due.is("the mark", x.panel(2, 3), Float.floatToIntBits(100.5f));

        due.sentence("Promises 17, 18", "What it is", "wine in oak evaporates, bottling runs fill bottles,");
        x.set(2, 100);
        due.is("a tenth of 101", x.months(1), 10);
        due.is("1 in steel", x.lot(1, 0), 1);
        due.is("30 litres in bottles of 75", x.bottle(2, 30, 75), 40);

        due.sentence("Promise 20", "What it is", "litres add up with all losses");
        due.is("brought", x.account(0), 102);
        due.is("lost, evaporated, bottled, left", x.account(1) + x.account(2) + x.account(3) + x.account(4), 0 + 10 + 30 + 62);

        due.sentence("Promises 27, 28", "What it is", ", and rules come from texts with places and reasons of faults.");
        due.is("a text with a fault", Cellars.rules(x, "acid most 70;sugar least 5;"), -2);
        due.is("its place", x.fault(0), 13);
        due.is("its reason", x.fault(1), 1);
        due.is("a text without one", Cellars.rules(x, "acid most 70;sugar most 5;"), 2);
    }

    private static void manyCalls(Due due) {
        due.sentence("Promises 1 to 28", "What it is", "An object is used for at most 512 calls after it has been made; what later calls answer is free.");
        VineyardBlends x = new VineyardBlends();
        x.bring(10000, 0, 2000, 0, 0, 0);
        for (int call = 2; call <= 511; call++) {
            x.bottle(0, 10, 10);
        }
        due.is("call 512: bottles of 510 calls", x.account(5), 51000);
        due.is("a later call comes back too", x.count(12) >= -4 ? 1 : 0, 1);
    }

    private static void terms(Due due) {
        due.sentence("Promises 2 to 28", "Terms", "All numbers are whole numbers; divisions are rounded down, if nothing else is said.");
        VineyardBlends x = new VineyardBlends();
        x.bring(199, 0, 2000, 0, 999, 99);
        x.bring(1, 1, 2000, 0, 0, 0);
        x.recipe(0, 1);
        x.recipe(1, 1);
        due.is("999 / 2", x.ifBlend(2, 2), 499);
        due.is("99 / 2", x.ifBlend(2, 3), 49);
        x.recipe(1, 0);
        due.is("1.99 litres of loss", x.ifBlend(199, 6), 1);
        x.move(0, 1);
        x.set(2, 10);
        due.is("1.99 litres in a month", x.months(1), 1);
        x.set(3, 4);
        due.is("3.3 full bottles", x.bottle(1, 1, 30), 3);
        due.is("10 centilitres left over", x.account(7), 10);

        due.sentence("Promise 6", "Lots", "A lot is made of grains: each grain has an origin (0 to 7), a year (2000 to 2063) and a variety (0 to 9)");
        x.bring(5, 7, 2063, 9, 0, 0);
        int[] grain = {7, 2063, 9, 5};
        for (int what = 0; what < 4; what++) {
            due.is("grain(2, 0, " + what + ")", x.grain(2, 0, what), grain[what]);
        }

        due.sentence("Promise 6", "Lots", "all three together different from those of other grains of the lot, and litres, 1 or more.");
        x.bring(4, 7, 2063, 9, 0, 0);
        x.bring(3, 7, 2063, 8, 0, 0);
        x.set(0, 0);
        for (int lot = 2; lot < 5; lot++) {
            x.recipe(lot, 7 - lot);
        }
        x.recipe(0, 0);
        due.is("12 litres", x.blend(12, 0), 5);
        due.is("two grains", x.lot(5, 1), 2);
        due.is("the other one", x.grain(5, 0, 2), 8);
        due.is("its litres", x.grain(5, 0, 3), 3);
        due.is("the same two", x.grain(5, 1, 3), 9);
        due.sentence("Promise 5", "Lots", "and a sugar (0 to 500), and it is in steel (0) or in oak (1).");
        due.is("steel", x.lot(5, 5), 0);
        due.is("oak", x.lot(0, 5), 1);
    }

    private static void sharingOut(Due due) {
        due.sentence("Promise 10", "Sharing out", "To share x litres by weights w (whole numbers, not all 0, with the sum s): each gets x * w / s, rounded down; "
                + "what is left is given, 1 each, to those with the greatest remainders of x * w by s, of equal ones to those that come first.");
        int[] weights = {1, 5, 7, 20};
        int[] one = {0, 0, 0, 1};
        int[] forty = {1, 6, 8 + 1, 24};
        int[] all = {1, 5, 7, 20};
        VineyardBlends x = new VineyardBlends();
        for (int lot = 0; lot < 4; lot++) {
            x.bring(1000, lot, 2000, 0, 0, 0);
            x.recipe(lot, weights[lot]);
        }
        shared(due, x, 1, one);
        shared(due, x, 40, forty);
        shared(due, x, 33, all);
        for (int lot = 0; lot < 4; lot++) {
            x.recipe(lot, 3);
        }
        shared(due, x, 3, 1, 1, 1, 0);
        shared(due, x, 6, 2, 2, 1, 1);

        due.sentence("Promise 18", "Sharing out", "To take x litres from a lot (at most its litres) means to share x by the litres of its grains, in their order, "
                + "and to take these from them; a grain without litres is gone.");
        x.set(0, 0);
        x.blend(10, 1);
        due.is("the first of 3, 3, 2, 2", x.grain(4, 0, 3), 3);
        due.is("the last of 3, 3, 2, 2", x.grain(4, 3, 3), 2);
        x.bottle(4, 7, 100);
        due.is("behind 2.1, 2.1, 1.4, 1.4", x.lot(4, 0), 3);
        due.is("3 grains", x.lot(4, 1), 3);
        due.is("1 - 0", x.grain(4, 0, 3) + x.grain(4, 1, 3), 2);
        due.is("the third one is gone, and the fourth one comes", x.grain(4, 2, 0), 3);
    }

    /** The litres that a blend takes from each lot. */
    private static void shared(Due due, VineyardBlends x, int litres, int... gets) {
        int[] before = new int[gets.length];
        for (int lot = 0; lot < gets.length; lot++) {
            before[lot] = x.lot(lot, 0);
        }
        x.blend(litres, 1);
        for (int lot = 0; lot < gets.length; lot++) {
            due.is(litres + " litres, from lot " + lot, before[lot] - x.lot(lot, 0), gets[lot]);
        }
        x.undo();
    }

    private static void measures(Due due) {
        due.sentence("Promise 10", "Blends", "The measures of the blend are, for each of the three, the sum over all lots of the recipe of "
                + "(litres taken from it) * (its measure), divided by L.");
        VineyardBlends x = Cellars.rich();
        x.blend(121, 0);
        due.is("alcohol of 61, 40, 20: 135600 / 121", x.lot(3, 2), 1120);
        due.is("acid: 8220 / 121", x.lot(3, 3), 67);
        due.is("sugar: 1920 / 121", x.lot(3, 4), 15);
        due.is("loss of 121 * 50 / 1000", x.lot(3, 0), 115);
    }

    private static void errors(Due due) {
        VineyardBlends x = Cellars.rich();
        due.sentence("Promises 2 to 28", "Changes and errors", "If several errors apply to a call, INVALID_ARGUMENT is returned rather than NOT_FOUND, "
                + "NOT_FOUND rather than NOT_POSSIBLE, and NOT_POSSIBLE rather than LIMIT_REACHED.");
        due.is("no such lot, no such kind", x.move(9, 2), VineyardBlends.INVALID_ARGUMENT);
        due.is("no such lot, in steel", x.move(9, 0), VineyardBlends.NOT_FOUND);
        due.is("in steel", x.move(0, 0), VineyardBlends.NOT_POSSIBLE);
        for (int lot = 3; lot < 7; lot++) {
            x.bring(1, 0, 2000, 0, 0, 0);
        }
        due.is("6 in steel", x.count(1), 6);
        due.is("in steel, where there are 6", x.move(0, 0), VineyardBlends.NOT_POSSIBLE);
        due.is("to steel, where there are 6", x.move(2, 0), VineyardBlends.LIMIT_REACHED);
        due.is("too much, where there are 6", x.blend(10000, 0), VineyardBlends.NOT_POSSIBLE);
        due.is("not too much, where there are 6", x.blend(10, 0), VineyardBlends.LIMIT_REACHED);
        due.sentence("Promises 1 to 28", "Changes and errors", "The constants: INVALID_ARGUMENT = -1: An argument is out of its range.");
        due.is("a negative number", x.bits(-1), -1L);
    }

    private static void propertiesOfLots(Due due) {
        VineyardBlends x = Cellars.rich();
        int[][] lots = {{269, 1, 1200, 60, 0, 0, 0, 2, 3}, {220, 1, 1000, 80, 40, 0, 2, 0, 2}, {184, 2, 1120, 68, 16, 1, 0, 1, 1}};
        for (String words : new String[] {"Returns a property of a lot.", "Returns the property;"}) {
            due.sentence("Promise 5", words);
            for (int lot = 0; lot < 3; lot++) {
                for (int what = 0; what < 9; what++) {
                    due.is("lot(" + lot + ", " + what + ")", x.lot(lot, what), lots[lot][what]);
                }
            }
        }
        int[][] grains = {{1, 2020, 3, 110}, {2, 2021, 4, 74}};
        for (String words : new String[] {"Returns a property of a grain of a lot.", "Returns the property;"}) {
            due.sentence("Promise 6", words);
            for (int grain = 0; grain < 2; grain++) {
                for (int what = 0; what < 4; what++) {
                    due.is("grain(2, " + grain + ", " + what + ")", x.grain(2, grain, what), grains[grain][what]);
                }
            }
        }
        for (String words : new String[] {"Returns a share in a lot.", "Returns the share in percent;"}) {
            due.sentence("Promise 7", words);
            int[][] values = {{1, 2}, {2020, 2021}, {3, 4}};
            for (int what = 0; what < 3; what++) {
                due.is("110 / 184, by " + what, x.share(2, what, values[what][0]), 59);
                due.is("74 / 184, by " + what, x.share(2, what, values[what][1]), 40);
            }
        }
        due.sentence("Promise 8", "Returns all years of a lot as bits, the year 2000 + k as the bit k, shifted to the right by 8 without keeping the sign, "
                + "and in the place of the bits 56 to 63, which are free then, all origins, the origin o as the bit 56 + o.");
        due.is("2020 and 2021, 1 and 2", x.bits(2), 1L << 12 | 1L << 13 | 1L << 57 | 1L << 58);
        due.sentence("Promise 8", "Returns the bits;");
        due.is("2021, 2", x.bits(1), 1L << 13 | 1L << 58);
    }

    private static void whatBlendsReturn(Due due) {
        VineyardBlends x = Cellars.rich();
        int[] all = {114, 2, 1120, 68, 16, 0, 6, 0};
        for (String words : new String[] {"Tells what a blend would be.", "Returns the number;"}) {
            due.sentence("Promise 11", words);
            for (int what = 0; what < 8; what++) {
                due.is("ifBlend(120, " + what + ")", x.ifBlend(120, what), all[what]);
            }
        }
        due.sentence("Promise 12", "Returns the greatest number of litres that could be taken by the recipe.");
        due.is("269.5 of 269, 179.7 of 220, 89.8 of 184", x.mostLitres(), 539);
        due.is("it can be", x.ifBlend(539, 7), 1);
        for (int litres = 540; litres < 600; litres++) {
            due.is("but not " + litres, x.ifBlend(litres, 7), -2);
        }
    }

    private static void parts(Due due) {
        due.sentence("Promise 13", "Finds the parts of two lots, 1 to 20 each, with which (a * first + b * second) / (a + b), as an exact fraction, "
                + "comes nearest to an aim, for one of their measures.");
        VineyardBlends x = Cellars.rich();
        due.is("alcohol of 1200 and 1000", x.partsFor(0, 1, 0, 1150), 301);
        due.is("alcohol of 1000 and 1200", x.partsFor(1, 0, 0, 1150), 103);
        due.is("acid of 60 and 80", x.partsFor(0, 1, 1, 64), 401);
        due.is("sugar of 0 and 40", x.partsFor(0, 1, 2, 10), 301);
        due.is("sugar of 16 and 40", x.partsFor(2, 1, 2, 25), 503);
    }

    private static void whatPanelsReturn(Due due) {
        VineyardBlends x = Cellars.rich();
        int[] all = {100, 1, 32, Float.floatToIntBits(100f), 100};
        for (String words : new String[] {"Returns something of the scores of a lot.", "Returns the number;"}) {
            due.sentence("Promise 15", words);
            for (int what = 0; what < 5; what++) {
                due.is("panel(0, " + what + ")", x.panel(0, what), all[what]);
            }
        }
        for (String words : new String[] {"Returns a lot of the ranking.", "Returns the number of the lot;"}) {
            due.sentence("Promise 16", words);
            due.is("ranked(0)", x.ranked(0), 0);
            due.is("ranked(1)", x.ranked(1), 2);
        }
    }

    private static void whatCellarsReturn(Due due) {
        VineyardBlends x = Cellars.rich();
        int[] accounts = {700, 10, 6, 11, 673, 14, 0, 50};
        for (String words : new String[] {"Returns an account.", "Returns the account;"}) {
            due.sentence("Promise 20", words);
            for (int what = 0; what < 8; what++) {
                due.is("account(" + what + ")", x.account(what), accounts[what]);
            }
        }
        int[] counts = {3, 2, 1, 4, 2, 3, 3, 50, 40, 20, 0, 2, 4, 13};
        for (String words : new String[] {"Returns a number.", "Returns the number;"}) {
            due.sentence("Promise 21", words);
            for (int what = 0; what < 14; what++) {
                due.is("count(" + what + ")", x.count(what), counts[what]);
            }
        }
    }

    private static void whatRulesReturn(Due due) {
        VineyardBlends x = Cellars.rich();
        int[][] rules = {{8, -4, 400}, {1, 2, 99}};
        for (String words : new String[] {"Returns a property of a rule.", "Returns the property;"}) {
            due.sentence("Promise 23", words);
            for (int rule = 0; rule < 2; rule++) {
                for (int what = 0; what < 3; what++) {
                    due.is("rule(" + rule + ", " + what + ")", x.rule(rule, what), rules[rule][what]);
                }
            }
        }
        due.is("the text is read", x.read(), 1);
        for (String words : new String[] {"Tells about the fault of the text.", "Returns that;"}) {
            due.sentence("Promise 27", words);
            due.is("its index", x.fault(0), 0);
            due.is("its reason", x.fault(1), 5);
        }
    }
}
