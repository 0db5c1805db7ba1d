/** The sentences of the document that name bounds of rules and texts: promises 23 to 28. */
public final class RuleBoundsTest {
    private static final String EIGHT =
            "acid most 1;acid most 2;acid most 3;acid most 4;acid most 5;acid most 6;acid most 7;acid most 8;";
    private static final String[] KINDS = {
        "origin 7 least 0;", "origin 0 most 100;", "year 2063 least 100;", "variety 9 least 0;",
        "alcohol least 2000;", "alcohol most 0;", "acid least 200;", "acid most 0;", "sugar most 500;"
    };
    private static final int[][] READ = {
        {0, 7, 0}, {1, 0, 100}, {2, 2063, 100}, {3, 9, 0}, {4, -4, 2000}, {5, -4, 0}, {6, -4, 200}, {7, -4, 0}, {8, -4, 500}
    };

    public static void main(String[] args) {
        Due due = new Due("bounds of rules and texts");
        mostRules(due);
        breaking(due);
        masks(due);
        rule(due);
        dropRule(due);
        type(due);
        clearText(due);
        fault(due);
        forms(due);
        words(due);
        blanksAndNumbers(due);
        digits(due);
        ranges(due);
        semicolons(due);
        rulesThereAlready(due);
        rulesTooMany(due);
        whichReason(due);
        read(due);
        due.end();
    }

    private static VineyardBlends withRules(String text) {
        VineyardBlends x = new VineyardBlends();
        Cellars.rules(x, text);
        return x;
    }

    private static void mostRules(Due due) {
        due.sentence("Promise 28", "Rules", "There are at most 8 rules, numbered from 0 in the order in which they were made.");
        VineyardBlends x = withRules("sugar most 9;");
        Cellars.text(x, EIGHT);
        due.is("a ninth rule", x.read(), -2);
        due.is("rules", x.count(4), 1);
        Cellars.text(x, EIGHT.substring(0, 84));
        due.is("seven more", x.read(), 7);
        due.is("rules", x.count(4), 8);
        for (int rule = 0; rule < 8; rule++) {
            due.is("number of rule " + rule, x.rule(rule, 2), rule == 0 ? 9 : rule);
        }
        Cellars.text(x, "acid most 9;");
        due.is("one more", x.read(), -2);
        x.dropRule(0);
        due.is("in its place", x.read(), 1);
        due.is("the last number", x.rule(7, 2), 9);

        due.sentence("Promise 23", "Rules", "0 origin o least p 1 origin o most p 2 year y least p 3 variety v least p "
                + "(p from 0 to 100; n in the range of the measure) "
                + "4 alcohol least n 5 alcohol most n 6 acid least n 7 acid most n 8 sugar most n");
        for (int kind = 0; kind < 9; kind++) {
            VineyardBlends each = withRules(KINDS[kind]);
            for (int what = 0; what < 3; what++) {
                due.is(KINDS[kind] + " rule(0, " + what + ")", each.rule(0, what), READ[kind][what]);
            }
        }
    }

    /** A lot of 101 litres: 67 of origin 1, year 2001 and variety 3, which are 66.3 percent, and 34 of others. */
    private static VineyardBlends mixed() {
        VineyardBlends x = new VineyardBlends();
        x.set(0, 0);
        x.bring(67, 1, 2001, 3, 1000, 60);
        x.bring(34, 2, 2002, 4, 1000, 60);
        x.recipe(0, 2);
        x.recipe(1, 1);
        x.blend(101, 0);
        x.sweeten(2, 20);
        return x;
    }

    private static void broken(Due due, String text, int mask) {
        VineyardBlends x = mixed();
        due.is("read " + text, Cellars.rules(x, text), 2);
        due.is("broken of " + text, x.lot(2, 6), mask);
    }

    private static void breaking(Due due) {
        due.sentence("Promise 5", "Rules", "A lot breaks a rule of the kinds 0, 2 and 3 if the share is less than p, of the kind 1 if it is greater");
        due.is("share", mixed().share(2, 0, 1), 66);
        broken(due, "origin 1 least 66;origin 1 least 67;", 2);
        broken(due, "origin 1 most 66;origin 1 most 65;", 2);
        broken(due, "year 2001 least 66;year 2001 least 67;", 2);
        broken(due, "variety 3 least 66;variety 3 least 67;", 2);
        broken(due, "origin 0 least 0;origin 0 least 1;", 2);
        broken(due, "origin 0 most 0;origin 2 most 0;", 2);
        broken(due, "origin 1 most 100;origin 1 least 100;", 2);
        broken(due, "year 2063 least 0;year 2063 least 1;", 2);
        broken(due, "variety 9 least 0;variety 9 least 1;", 2);
        due.sentence("Promise 5", "Rules", "a rule of 4 and 6 if the measure is less than n, of 5, 7 and 8 if it is greater");
        broken(due, "alcohol least 1000;alcohol least 1001;", 2);
        broken(due, "alcohol most 1000;alcohol most 999;", 2);
        broken(due, "acid least 60;acid least 61;", 2);
        broken(due, "acid most 60;acid most 59;", 2);
        broken(due, "sugar most 20;sugar most 19;", 2);
        broken(due, "alcohol least 0;alcohol least 2000;", 2);
        broken(due, "alcohol most 2000;alcohol most 0;", 2);
        broken(due, "acid least 0;acid least 200;", 2);
        broken(due, "acid most 200;acid most 0;", 2);
        broken(due, "sugar most 500;sugar most 0;", 2);
    }

    private static void masks(Due due) {
        due.sentence("Promise 5", "Rules", "The broken rules of a lot are told as a bit mask.");
        VineyardBlends x = mixed();
        due.is("no rules", x.lot(2, 6), 0);
        Cellars.rules(x, EIGHT);
        due.is("all 8", x.lot(2, 6), 255);
        due.is("all 8 by a blend", blendMask(x), 255);
        VineyardBlends y = mixed();
        Cellars.rules(y, "acid most 61;acid most 62;acid most 63;acid most 64;acid most 65;acid most 66;acid most 67;");
        due.is("none of 7", y.lot(2, 6), 0);
        Cellars.rules(y, "acid most 59;");
        due.is("the last of 8", y.lot(2, 6), 128);
        y.dropRule(0);
        due.is("the last of 7", y.lot(2, 6), 64);
    }

    private static int blendMask(VineyardBlends x) {
        x.recipe(2, 1);
        return x.ifBlend(1, 5);
    }

    private static void rule(Due due) {
        due.sentence("Promise 23", "rule: number of the rule");
        VineyardBlends x = withRules(EIGHT);
        due.is("the first", x.rule(0, 2), 1);
        due.is("the last", x.rule(7, 2), 8);
        due.sentence("Promise 23", "what: 0: its kind; 1: the origin, year or variety; 2: its percent or number");
        due.range("rule(0, ?)", 0, 3, 2, 5, v -> withRules("variety 4 least 5;").rule(0, v));
        due.is("rule(0, 1)", withRules("variety 4 least 5;").rule(0, 1), 4);
        due.sentence("Promise 23", "INVALID_ARGUMENT if rule is negative or what is out of range");
        due.is("rule -1", x.rule(-1, 0), -1);
        due.is("the least rule", x.rule(Integer.MIN_VALUE, 0), -1);
        due.is("what of a rule that is not there", x.rule(8, 3), -1);
        due.sentence("Promise 23", "NOT_FOUND if there are not so many rules, or for 1 if the kind is above 3");
        due.is("rule 8 of 8", x.rule(8, 0), -4);
        due.is("the greatest rule", x.rule(Integer.MAX_VALUE, 0), -4);
        due.is("rule 0 of 0", new VineyardBlends().rule(0, 0), -4);
        for (int kind = 0; kind < 9; kind++) {
            due.is("1 for the kind " + kind, withRules(KINDS[kind]).rule(0, 1), kind > 3 ? -4 : READ[kind][1]);
        }
    }

    private static void dropRule(Due due) {
        due.sentence("Promise 24", "rule: number of the rule");
        due.is("the first", withRules(EIGHT).dropRule(0), 7);
        due.is("the last", withRules(EIGHT).dropRule(7), 7);
        due.sentence("Promise 24", "INVALID_ARGUMENT if rule is negative; NOT_FOUND if there is no such rule");
        due.is("rule -1 of none", new VineyardBlends().dropRule(-1), -1);
        due.is("rule 0 of none", new VineyardBlends().dropRule(0), -4);
        due.is("rule 8 of 8", withRules(EIGHT).dropRule(8), -4);
        due.is("the greatest rule", withRules(EIGHT).dropRule(Integer.MAX_VALUE), -4);
        due.sentence("Promise 24", "Removes a rule; the numbers of the later ones decrease by 1.");
        for (int gone : new int[] {0, 3, 6, 7}) {
            VineyardBlends x = withRules(EIGHT);
            x.dropRule(gone);
            for (int rule = 0; rule < 7; rule++) {
                due.is("rule " + rule + " without " + gone, x.rule(rule, 2), rule < gone ? rule + 1 : rule + 2);
            }
            due.is("no rule 7 without " + gone, x.rule(7, 2), -4);
        }
        VineyardBlends kinds = withRules("origin 1 least 2;year 2003 least 4;");
        kinds.dropRule(0);
        for (int what = 0; what < 3; what++) {
            due.is("all of it: rule(0, " + what + ")", kinds.rule(0, what), new int[] {2, 2003, 4}[what]);
        }
        due.sentence("Promise 24", "Returns how many rules are left");
        VineyardBlends x = withRules(EIGHT);
        for (int left = 7; left >= 0; left--) {
            due.is("left", x.dropRule(left / 2), left);
        }
        due.is("none", x.dropRule(0), -4);
    }

    private static void type(Due due) {
        due.sentence("Promise 25", "character: its code, 32 to 126");
        due.range("type(?)", 32, 1, 126, 1, v -> new VineyardBlends().type(v));
        due.sentence("Promise 25", "Texts", "There is a text of at most 100 characters, initially empty");
        VineyardBlends x = new VineyardBlends();
        due.is("its length", x.count(13), 0);
        due.is("its fault", x.fault(0), -4);
        for (int length = 1; length <= 100; length++) {
            due.is("type(59)", x.type(59), length);
        }
        due.is("its length", x.count(13), 100);
        due.sentence("Promise 25", "Returns the length of the text; INVALID_ARGUMENT if character is out of range; LIMIT_REACHED if the text has 100 characters.");
        due.is("one more", x.type(59), -3);
        due.is("its length", x.count(13), 100);
        x.clearText();
        due.is("an empty one again", x.type(59), 1);
        String four = "alcohol least 0001;alcohol least 0002;alcohol least 0003;alcohol least 0004;";
        Cellars.text(x, four + "acid most 1;acid most 2;");
        due.is("100 characters", x.fault(0), -4);
        due.is("all of them are read", x.read(), 6);
        Cellars.text(x, four + "sugar most 1;acid most 3;");
        due.is("the last of 101 is missing", x.count(13), 100);
        VineyardBlends y = new VineyardBlends();
        Cellars.text(y, four + "sugar most 1;acid most 3;");
        due.is("its rule has a fault", y.fault(0), 89);
        due.is("as the ';' is missing", y.fault(1), 4);
    }

    private static void clearText(Due due) {
        due.sentence("Promise 26", "Empties the text.");
        VineyardBlends x = new VineyardBlends();
        Cellars.text(x, EIGHT + "acid");
        due.is("full", x.clearText(), 100);
        due.is("empty", x.count(13), 0);
        due.is("no fault", x.fault(1), -4);
        due.is("no rules", x.read(), 0);
        x.type('x');
        due.is("nothing of the old one", x.fault(1), 1);
        due.sentence("Promise 26", "Returns the length it had.");
        due.is("one", x.clearText(), 1);
        due.is("none", x.clearText(), 0);
        due.is("new", new VineyardBlends().clearText(), 0);
    }

    /** The place and the reason of a text's fault, in a cellar with these rules. */
    private static void faultIs(Due due, String rules, String text, int place, int reason) {
        VineyardBlends x = withRules(rules);
        Cellars.text(x, text);
        due.is("place in '" + text + "'", x.fault(0), place);
        due.is("reason in '" + text + "'", x.fault(1), reason);
        due.is("read '" + text + "'", x.read() == -2 ? 1 : 0, reason > 0 ? 1 : 0);
    }

    private static void faultIs(Due due, String text, int reason) {
        faultIs(due, "", text, 0, reason);
        faultIs(due, "", "acid most 7;" + text, 12, reason);
    }

    private static void noFault(Due due, String text) {
        faultIs(due, "", text, -4, -4);
    }

    private static void fault(Due due) {
        due.sentence("Promise 27", "what: 0: its index; 1: its reason");
        due.range("fault(?)", 0, 12, 1, 2, v -> {
            VineyardBlends x = new VineyardBlends();
            Cellars.text(x, "acid most 7;acid");
            return x.fault(v);
        });
        due.sentence("Promise 27", "NOT_FOUND if the text has no fault (also if it is empty)");
        noFault(due, "");
        for (String text : KINDS) {
            noFault(due, text);
        }
        due.is("fault(2) of no fault", new VineyardBlends().fault(2), -1);
        due.sentence("Promise 27", "Texts", "The fault of the text is the index of the first character of the first rule that is not possible");
        faultIs(due, "", "x", 0, 1);
        faultIs(due, "", "acid most 1;x;y", 12, 1);
        faultIs(due, "", "acid most 1;acid most 2;acid most 300;x", 24, 3);
        faultIs(due, "", "acid most 1;acid most 1;acid most 1;", 12, 5);
        faultIs(due, "", EIGHT + "acid", 96, 2);
        faultIs(due, "acid most 8;", EIGHT, 84, 5);
        faultIs(due, "sugar most 8;", EIGHT, 84, 6);
    }

    private static void forms(Due due) {
        due.sentence("Promise 28", "Texts", "\"origin\", a number, \"least\" or \"most\", a percent");
        noFault(due, "origin 3 least 50;origin 3 most 60;");
        faultIs(due, "origin 3 50;", 1);
        faultIs(due, "origin least 50;", 2);
        due.sentence("Promise 28", "Texts", "\"year\" or \"variety\", a number, \"least\", a percent");
        noFault(due, "year 2030 least 50;variety 3 least 50;");
        faultIs(due, "year 2030 most 50;", 1);
        faultIs(due, "variety 3 most 50;", 1);
        due.sentence("Promise 28", "Texts", "\"alcohol\" or \"acid\", \"least\" or \"most\", a number");
        noFault(due, "alcohol least 900;alcohol most 1900;acid least 20;acid most 90;");
        faultIs(due, "alcohol 3 least 900;", 1);
        faultIs(due, "acid 3 most 90;", 1);
        due.sentence("Promise 28", "Texts", "\"sugar\", \"most\", a number");
        noFault(due, "sugar most 300;");
        faultIs(due, "sugar least 300;", 1);
        faultIs(due, "sugar 3 most 300;", 1);
    }

    private static void words(Due due) {
        due.sentence("Promise 27", "Texts", "its reason is 1 for a word (also an empty one) that is not one of those that can stand there");
        for (String text : new String[] {
            "wine", " ", ";", "7", "~", "least 1;", "most 1;", "origin 1 origin", "origin 1 year 5;", "year 2000 most 5;", "variety 1 most 5;",
            "sugar least 5;", "alcohol 1 least 5;", "acid  least 5;", "origin 1 ", "origin 1  least 5;", "alcohol ", "alcohol ;", "acid ;", "sugar 5;"
        }) {
            faultIs(due, text, 1);
        }
        faultIs(due, "", "acid most 7; acid most 8;", 12, 1);
        due.sentence("Promise 27", "Texts", "A word is all the small letters that stand there");
        for (String text : new String[] {
            "origins 1 least 5;", "origi 1 least 5;", "aorigin 1 least 5;", "origin 1 leastx 5;", "origin 1 leas 5;", "acid mosta 5;", "acid mostz 5;",
            "acida most 5;", "acidz most 5;", "Acid most 5;", "acid Most 5;", "sugarmost 5;", "alcohol leastmost 5;"
        }) {
            faultIs(due, text, 1);
        }
        for (String text : new String[] {"acid` most 5;", "acid{ most 5;", "acidA most 5;", "acid0 most 5;", "acid most`5;", "acid most{5;", "acid-most 5;"}) {
            faultIs(due, text, 2);
        }
    }

    private static void blanksAndNumbers(Due due) {
        due.sentence("Promise 27", "Texts", "2 for a blank or a number that is missing");
        for (String text : new String[] {
            "origin", "origin;", "origin1 least 5;", "origin ", "origin ;", "origin least 5;", "origin x least 5;", "origin  1 least 5;", "origin 1",
            "origin 1;", "origin 1least 5;", "origin 1 least", "origin 1 least;", "origin 1 least5;", "origin 1 least ", "origin 1 least ;",
            "origin 1 least  5;", "origin 1 least x;", "origin -1 least 5;", "origin 1 least -5;", "year", "year 2000", "variety", "variety 1",
            "alcohol", "alcohol least", "alcohol least ", "alcohol most", "acid", "acid least", "acid most ;", "sugar", "sugar most", "sugar most ",
            "origin /1 least 5;", "origin : least 5;", "sugar most /;", "sugar most :;"
        }) {
            faultIs(due, text, 2);
        }
        due.sentence("Promise 27", "Texts", "all words and numbers with one blank between them");
        faultIs(due, "acid  most 5;", 1);
        faultIs(due, "acid most  5;", 2);
        faultIs(due, "origin  1 most 5;", 2);
        faultIs(due, "origin 1  most 5;", 1);
        faultIs(due, "acid most 5 ;", 4);
        noFault(due, "acid most 5;");
    }

    private static void digits(Due due) {
        due.sentence("Promise 27", "Texts", "a number has 1 to 4 digits, zeros may stand ahead, a fifth digit is no part of it, but what follows");
        noFault(due, "origin 0 least 0;origin 00 least 0001;origin 000 least 0002;origin 0000 least 0100;");
        noFault(due, "year 2000 least 5;variety 9 least 05;variety 0009 least 006;alcohol least 0000;");
        faultIs(due, "origin 00001 least 5;", 2);
        faultIs(due, "origin 1 least 00005;", 4);
        faultIs(due, "alcohol least 10000;", 4);
        faultIs(due, "alcohol most 00000;", 4);
        faultIs(due, "year 20001 least 5;", 2);
        faultIs(due, "sugar most 123456;", 4);
        VineyardBlends x = withRules("year 2007 least 0100;alcohol most 0090;sugar most 9;acid least 0200;");
        int[] numbers = {100, 90, 9, 200};
        for (int rule = 0; rule < 4; rule++) {
            due.is("the number of rule " + rule, x.rule(rule, 2), numbers[rule]);
        }
    }

    private static void ranges(Due due) {
        due.sentence("Promise 27", "Texts", "3 for a number that is out of its range");
        String[][] pairs = {
            {"origin 7 least 5;", "origin 8 least 5;"}, {"origin 1 least 100;", "origin 1 least 101;"},
            {"origin 7 most 5;", "origin 8 most 5;"}, {"origin 1 most 100;", "origin 1 most 101;"},
            {"year 2000 least 5;", "year 1999 least 5;"}, {"year 2063 least 5;", "year 2064 least 5;"},
            {"year 2001 least 100;", "year 2001 least 101;"}, {"variety 9 least 5;", "variety 10 least 5;"},
            {"variety 1 least 100;", "variety 1 least 101;"}, {"alcohol least 2000;", "alcohol least 2001;"},
            {"alcohol most 2000;", "alcohol most 2001;"}, {"acid least 200;", "acid least 201;"},
            {"acid most 200;", "acid most 201;"}, {"sugar most 500;", "sugar most 501;"},
            {"origin 0 least 0;", "origin 9999 least 9999;"}, {"sugar most 0;", "sugar most 9999;"}, {"year 2000 least 0;", "year 0 least 0;"}
        };
        for (String[] pair : pairs) {
            noFault(due, pair[0]);
            faultIs(due, pair[1], 3);
        }
    }

    private static void semicolons(Due due) {
        due.sentence("Promise 27", "Texts", "4 for a \";\" that is missing");
        for (String text : new String[] {
            "origin 1 least 5", "origin 1 most 5:", "year 2000 least 5,", "variety 1 least 5 ", "alcohol least 5 ;", "acid most 5x;", "sugar most 5 5;"
        }) {
            faultIs(due, text, 4);
        }
        due.sentence("Promise 28", "Texts", "a sequence of rules, each followed by \";\"");
        faultIs(due, "", "acid most 5;acid most 6", 12, 4);
        faultIs(due, "", "acid most 5;;", 12, 1);
        noFault(due, "acid most 5;acid most 6;");
    }

    private static void rulesThereAlready(Due due) {
        due.sentence("Promise 27", "Texts", "5 for a rule that there is already, alike in all (in the text or before; also one that this text made before)");
        for (String text : KINDS) {
            faultIs(due, "", text + text, text.length(), 5);
            faultIs(due, text, text, 0, 5);
        }
        faultIs(due, "", "sugar most 5;sugar most 005;", 13, 5);
        faultIs(due, "", "origin 1 least 5;acid most 5;origin 2 least 5;acid most 5;", 46, 5);
        faultIs(due, "origin 3 most 5;alcohol most 5;", "year 2001 least 5;alcohol most 5;", 18, 5);
        faultIs(due, "sugar most 1;sugar most 5;", "acid most 5;sugar most 5;", 12, 5);
        noFault(due, "origin 1 least 5;origin 1 most 5;origin 2 least 5;origin 1 least 6;");
        noFault(due, "variety 5 least 5;origin 5 least 5;alcohol least 5;acid least 5;alcohol most 5;acid most 5;");
        noFault(due, "year 2000 least 5;year 2001 least 5;year 2000 least 6;sugar most 5;");
        VineyardBlends x = withRules("sugar most 5;acid most 5;");
        due.is("made by this text", x.fault(1), 5);
        due.is("its place", x.fault(0), 0);
        x.dropRule(0);
        due.is("one is gone", x.fault(0), 13);
        x.dropRule(0);
        due.is("both are gone", x.fault(0), -4);
        x.undo();
        due.is("one is back", x.fault(0), 13);
    }

    private static void rulesTooMany(Due due) {
        due.sentence("Promise 27", "Texts", "6 for a rule too many");
        noFault(due, EIGHT);
        faultIs(due, "sugar most 1;", EIGHT, 84, 6);
        faultIs(due, "sugar most 1;", EIGHT.substring(0, 84), -4, -4);
        faultIs(due, EIGHT, "sugar most 1;", 0, 6);
        faultIs(due, EIGHT.substring(12), "sugar most 1;", -4, -4);
        faultIs(due, EIGHT.substring(12), "sugar most 1;sugar most 2;", 13, 6);
        faultIs(due, EIGHT, "", -4, -4);
    }

    private static void whichReason(Due due) {
        due.sentence("Promise 27", "Texts", "From the left to the right the first of 1, 2 and 4 counts; if there is none, 3, then 5, then 6.");
        faultIs(due, "origin x more y", 2);
        faultIs(due, "origin 1 more y", 1);
        faultIs(due, "origin 1 most y", 2);
        faultIs(due, "origin 1 most 5", 4);
        faultIs(due, "year 1 most y", 1);
        faultIs(due, "origin 9 more 5;", 1);
        faultIs(due, "origin 9 most y;", 2);
        faultIs(due, "origin 9 most 999", 4);
        faultIs(due, "origin 9 most 5;", 3);
        faultIs(due, EIGHT, "acid most 8", 0, 4);
        faultIs(due, EIGHT, "acid most 888;", 0, 3);
        faultIs(due, EIGHT, "acid most 8;", 0, 5);
        faultIs(due, EIGHT, "acid most 9;", 0, 6);
        faultIs(due, EIGHT, "acid more 9;", 0, 1);
        faultIs(due, EIGHT, "acid most;", 0, 2);
    }

    private static void read(Due due) {
        due.sentence("Promise 28", "Returns how many there are in the text");
        due.is("none", new VineyardBlends().read(), 0);
        due.is("one", Cellars.rules(new VineyardBlends(), "acid most 1;"), 1);
        due.is("eight", Cellars.rules(new VineyardBlends(), EIGHT), 8);
        VineyardBlends full = withRules(EIGHT);
        due.is("none where there are eight", Cellars.rules(full, ""), 0);
        due.is("rules", full.count(4), 8);
        due.sentence("Promise 28", "NOT_POSSIBLE if it has a fault");
        for (String text : new String[] {"x", "acid", "acid most 999;", "acid most 9", "acid most 8;", "acid most 9;"}) {
            due.is("read '" + text + "'", Cellars.rules(full, text), -2);
        }
        due.is("read a text whose first rule is possible", Cellars.rules(new VineyardBlends(), "acid most 1;x"), -2);
        due.sentence("Promise 28", "Makes the rules of the text, behind those that there are. The text stays.");
        VineyardBlends x = withRules("sugar most 3;");
        due.is("read", Cellars.rules(x, "sugar most 2;sugar most 1;"), 2);
        for (int rule = 0; rule < 3; rule++) {
            due.is("rule " + rule, x.rule(rule, 2), 3 - rule);
        }
        due.is("the text", x.count(13), 26);
        VineyardBlends y = new VineyardBlends();
        Cellars.text(y, "acid most 1;x");
        y.read();
        due.is("no rule of a text with a fault", y.count(4), 0);
        due.is("which stays too", y.count(13), 13);
    }
}
