/** Promises 23 to 28: rule, dropRule, type, clearText, fault, read. */
public final class RulesTest {
    public static void main(String[] args) {
        Due due = new Due("rules and texts");
        rule(due);
        broken(due);
        dropRule(due);
        type(due);
        clearText(due);
        goodTexts(due);
        wrongWords(due);
        blanksAndNumbers(due);
        ranges(due);
        semicolons(due);
        doubles(due);
        tooMany(due);
        firstFault(due);
        read(due);
        due.end();
    }

    private static final String[] EACH = {
        "origin 7 least 10;", "origin 6 most 20;", "year 2063 least 30;", "variety 9 least 40;",
        "alcohol least 2000;", "alcohol most 1999;", "acid least 200;", "acid most 199;", "sugar most 500;"
    };

    private static void rule(Due due) {
        int[][] parts = {
            {0, 7, 10}, {1, 6, 20}, {2, 2063, 30}, {3, 9, 40},
            {4, -4, 2000}, {5, -4, 1999}, {6, -4, 200}, {7, -4, 199}, {8, -4, 500}
        };
        for (int i = 0; i < EACH.length; i++) {
            VineyardBlends x = new VineyardBlends();
            due.is("no rule", x.rule(0, 0), -4);
            due.is("read " + EACH[i], Cellars.rules(x, EACH[i]), 1);
            for (int what = 0; what < 3; what++) {
                due.is(EACH[i] + " rule(0, " + what + ")", x.rule(0, what), parts[i][what]);
            }
            due.is("rule(-1, 0)", x.rule(-1, 0), -1);
            due.is("rule(0, -1)", x.rule(0, -1), -1);
            due.is("rule(0, 3)", x.rule(0, 3), -1);
            due.is("rule(1, 3)", x.rule(1, 3), -1);
            due.is("rule(1, 0)", x.rule(1, 0), -4);
            due.is("rule(MAX, 0)", x.rule(Integer.MAX_VALUE, 0), -4);
        }
    }

    /** A lot of 30 litres: 10 of each of three grains. */
    private static void broken(Due due) {
        VineyardBlends x = new VineyardBlends();
        x.set(0, 0);
        x.bring(10, 1, 2001, 3, 900, 60);
        x.bring(10, 1, 2002, 4, 1000, 60);
        x.bring(10, 2, 2002, 3, 1100, 60);
        for (int i = 0; i < 3; i++) {
            x.recipe(i, 1);
        }
        x.blend(30, 0);
        x.sweeten(3, 20);
        String[][] pairs = {
            {"origin 1 least 66;", "origin 1 least 67;"}, {"origin 2 most 33;", "origin 2 most 32;"},
            {"year 2002 least 66;", "year 2002 least 67;"}, {"variety 4 least 33;", "variety 4 least 34;"},
            {"alcohol least 1000;", "alcohol least 1001;"}, {"alcohol most 1000;", "alcohol most 999;"},
            {"acid least 60;", "acid least 61;"}, {"acid most 60;", "acid most 59;"},
            {"sugar most 20;", "sugar most 19;"}
        };
        for (String[] pair : pairs) {
            for (int i = 0; i < 2; i++) {
                Cellars.rules(x, pair[i]);
                due.is(pair[i], x.lot(3, 6), i);
                x.dropRule(0);
            }
        }
        due.is("three are read", Cellars.rules(x, "acid least 61;acid most 60;acid most 59;origin 0 least 1;origin 0 most 0;"), 5);
        due.is("the mask", x.lot(3, 6), 1 + 4 + 8);
        due.is("seven are there", Cellars.rules(x, "sugar most 0;sugar most 30;alcohol most 0;"), 3);
        due.is("the mask", x.lot(3, 6), 1 + 4 + 8 + 32 + 128);
    }

    private static void dropRule(Due due) {
        VineyardBlends x = new VineyardBlends();
        due.is("no rule", x.dropRule(0), -4);
        due.is("dropRule(-1)", x.dropRule(-1), -1);
        Cellars.rules(x, "origin 1 least 10;acid most 20;year 2000 least 30;sugar most 40;");
        due.is("dropRule(4)", x.dropRule(4), -4);
        due.is("dropRule(1)", x.dropRule(1), 3);
        int[][] left = {{0, 1, 10}, {2, 2000, 30}, {8, -4, 40}};
        for (int i = 0; i < 3; i++) {
            for (int what = 0; what < 3; what++) {
                due.is("rule(" + i + ", " + what + ")", x.rule(i, what), left[i][what]);
            }
        }
        due.is("rule(3, 0)", x.rule(3, 0), -4);
        due.is("dropRule(2)", x.dropRule(2), 2);
        due.is("dropRule(2)", x.dropRule(2), -4);
        due.is("rule(2, 0)", x.rule(2, 0), -4);
        due.is("dropRule(0)", x.dropRule(0), 1);
        due.is("rule(0, 0)", x.rule(0, 0), 2);
        due.is("rules", x.count(4), 1);
        x.undo();
        due.is("behind undo", x.rule(1, 0), 2);
        due.is("rules", x.count(4), 2);
    }

    private static void type(Due due) {
        VineyardBlends x = new VineyardBlends();
        due.is("type(31)", x.type(31), -1);
        due.is("type(127)", x.type(127), -1);
        due.is("type(-1)", x.type(-1), -1);
        due.is("nothing typed", x.count(13), 0);
        due.is("type(32)", x.type(32), 1);
        due.is("type(126)", x.type(126), 2);
        for (int i = 3; i <= 100; i++) {
            due.is("type", x.type('a'), i);
        }
        due.is("a character too many", x.type('a'), -3);
        due.is("a wrong one comes ahead of the limit", x.type(200), -1);
        due.is("100 characters", x.count(13), 100);
        due.is("no states", x.count(12), 0);
        due.is("fault(0)", x.fault(0), 0);
        due.is("fault(1)", x.fault(1), 1);
    }

    private static void clearText(Due due) {
        VineyardBlends x = new VineyardBlends();
        due.is("clearText", x.clearText(), 0);
        x.type('a');
        x.type('b');
        due.is("clearText", x.clearText(), 2);
        due.is("length", x.count(13), 0);
        due.is("no fault", x.fault(0), -4);
        due.is("clearText", x.clearText(), 0);
        Cellars.text(x, EACH[0]);
        due.is("no characters of the old text", x.fault(0), -4);
        Cellars.text(x, EACH[0].substring(0, 5));
        due.is("but those of the new one", x.fault(1), 1);
    }

    private static void faultIs(Due due, VineyardBlends x, String text, int place, int reason) {
        Cellars.text(x, text);
        int states = x.count(12);
        int rules = x.count(4);
        due.is("place in '" + text + "'", x.fault(0), place);
        due.is("reason in '" + text + "'", x.fault(1), reason);
        if (reason > 0) {
            due.is("read '" + text + "'", x.read(), -2);
            due.is("no state by '" + text + "'", x.count(12), states);
            due.is("no rule by '" + text + "'", x.count(4), rules);
        }
    }

    private static void goodTexts(Due due) {
        VineyardBlends x = new VineyardBlends();
        due.is("fault(-1)", x.fault(-1), -1);
        due.is("fault(2)", x.fault(2), -1);
        faultIs(due, x, "", -4, -4);
        for (String each : EACH) {
            faultIs(due, x, each, -4, -4);
        }
        faultIs(due, x, "origin 0000 least 0000;origin 0007 most 0100;", -4, -4);
        faultIs(due, x, "year 2000 least 100;variety 0 least 0;variety 09 least 05;", -4, -4);
        faultIs(due, x, "alcohol least 0;alcohol most 0;acid least 0;acid most 0;sugar most 0;sugar most 0500;", -4, -4);
        Cellars.text(x, "x");
        due.is("fault(2) with a fault", x.fault(2), -1);
    }

    private static void wrongWords(Due due) {
        String[] texts = {
            " ", ";", "1", "o", "origi", "originx 1 least 1;", "Origin 1 least 1;", "origins 1 least 1;",
            " origin 1 least 1;", "least 1;", "years 2000 least 1;", "varietyy 1 least 1;", "alcohols least 1;",
            "origin 1 leas", "origin 1 leastt 5;", "origin 1 more 5;", "origin 1 ", "origin 1  least 5;", "origin 1 ;",
            "year 2000 most 5;", "variety 1 most 5;", "alcohol 5;", "alcohol ", "acid  least 5;", "acid lest 5;",
            "sugar least 5;", "sugar 5;", "sugar leas", "sugar mostly 5;", "origin 1 Least 5;", "year 2000 mos"
        };
        for (String text : texts) {
            faultIs(due, new VineyardBlends(), text, 0, 1);
        }
    }

    private static void blanksAndNumbers(Due due) {
        String[] texts = {
            "origin", "origin;", "origin1 least 1;", "origin ", "origin  1 least 1;", "origin least 1;", "origin x",
            "origin 1", "origin 1least 1;", "origin 1;", "origin 00001 least 1;", "origin 1 least", "origin 1 least;",
            "origin 1 least ", "origin 1 least x;", "origin 1 least  1;", "origin 1 least1;", "year", "year 2000",
            "variety", "variety ", "alcohol", "alcohol;", "alcohol least", "alcohol least ", "alcohol most ;",
            "acid", "acid most-1;", "acid most -1;", "sugar", "sugar most", "sugar most ", "origin,1 least 1;",
            "origin 12345 least 1;", "origin -1 least 1;"
        };
        for (String text : texts) {
            faultIs(due, new VineyardBlends(), text, 0, 2);
        }
    }

    private static void ranges(Due due) {
        String[] texts = {
            "origin 8 least 1;", "origin 7 least 101;", "origin 8 most 101;", "origin 0 most 9999;", "year 1999 least 1;",
            "year 2064 least 1;", "year 0 least 1;", "year 2000 least 101;", "variety 10 least 1;", "variety 9 least 101;",
            "alcohol least 2001;", "alcohol most 2001;", "acid least 201;", "acid most 201;", "sugar most 501;",
            "sugar most 9999;"
        };
        for (String text : texts) {
            faultIs(due, new VineyardBlends(), text, 0, 3);
        }
    }

    private static void semicolons(Due due) {
        String[] texts = {
            "origin 1 least 1", "origin 1 least 1 ;", "origin 1 least 1x;", "origin 1 least 1:", "acid most 5",
            "acid most 00005;", "sugar most 5000000;", "alcohol least 12345;", "origin 9 least 999", "acid most 300"
        };
        for (String text : texts) {
            faultIs(due, new VineyardBlends(), text, 0, 4);
        }
    }

    private static void doubles(Due due) {
        VineyardBlends x = new VineyardBlends();
        faultIs(due, x, "acid most 5;acid most 5;", 12, 5);
        faultIs(due, x, "origin 1 least 5;origin 01 least 005;", 17, 5);
        faultIs(due, x, "origin 1 least 5;origin 1 most 5;origin 2 least 5;origin 1 least 6;", -4, -4);
        faultIs(due, x, "alcohol least 5;acid least 5;alcohol most 5;acid most 5;sugar most 5;", -4, -4);
        faultIs(due, x, "year 2001 least 5;variety 1 least 5;year 2001 least 5;", 36, 5);
        due.is("read", Cellars.rules(x, "origin 1 least 5;sugar most 7;"), 2);
        due.is("fault(0)", x.fault(0), 0);
        due.is("fault(1)", x.fault(1), 5);
        due.is("read again", x.read(), -2);
        faultIs(due, x, "acid most 5;sugar most 07;", 12, 5);
        faultIs(due, x, "acid most 5;sugar most 7", 12, 4);
        x.dropRule(1);
        faultIs(due, x, "acid most 5;sugar most 7;", -4, -4);
        x.undo();
        faultIs(due, x, "acid most 5;sugar most 7;", 12, 5);
    }

    private static VineyardBlends withRules(String text) {
        VineyardBlends x = new VineyardBlends();
        Cellars.rules(x, text);
        return x;
    }

    private static void tooMany(Due due) {
        String eight = "acid most 1;acid most 2;acid most 3;acid most 4;acid most 5;acid most 6;acid most 7;acid most 8;";
        String seven = eight.substring(0, 84);
        faultIs(due, withRules(""), eight, -4, -4);
        faultIs(due, withRules(""), eight + "acid", 96, 2);
        faultIs(due, withRules("sugar most 1;"), eight, 84, 6);
        faultIs(due, withRules("sugar most 1;"), seven, -4, -4);
        faultIs(due, withRules("sugar most 1;"), seven + "acid most 999;", 84, 3);
        faultIs(due, withRules("sugar most 1;"), seven + "acid most 7;", 84, 5);
        faultIs(due, withRules("sugar most 1;"), seven + "sugar most 1;", 84, 5);
        faultIs(due, withRules("sugar most 1;"), seven + "acid most 9", 84, 4);
        VineyardBlends x = withRules("sugar most 1;");
        due.is("seven more", Cellars.rules(x, seven), 7);
        due.is("rules", x.count(4), 8);
        faultIs(due, x, "sugar most 2;", 0, 6);
        faultIs(due, x, "sugar most 1;", 0, 5);
        faultIs(due, x, "", -4, -4);
        due.is("an empty text is read", x.read(), 0);
        x.dropRule(0);
        faultIs(due, x, "sugar most 2;", -4, -4);
        due.is("the last one", x.rule(6, 2), 7);
    }

    private static void firstFault(Due due) {
        VineyardBlends x = new VineyardBlends();
        faultIs(due, x, "origin 1 least 60;alcohol most 1150;sweet", 36, 1);
        faultIs(due, x, "origin 1 least 60; alcohol most 1150;", 18, 1);
        faultIs(due, x, "origin 1 least 60;;", 18, 1);
        faultIs(due, x, "origin 1 least 60;alcohol most 1150", 18, 4);
        faultIs(due, x, "origin 8 least 60;sweet", 0, 3);
        faultIs(due, x, "acid most 1;acid most 1;sweet", 12, 5);
        faultIs(due, x, "origin 8 more 60;", 0, 1);
        faultIs(due, x, "origin x more 60", 0, 2);
        faultIs(due, x, "year 1 most x", 0, 1);
        faultIs(due, x, "year 1 least x", 0, 2);
        faultIs(due, x, "year 1 least 200", 0, 4);
    }

    private static void read(Due due) {
        VineyardBlends x = new VineyardBlends();
        due.is("no text", x.read(), 0);
        due.is("is a change", x.count(12), 1);
        due.is("read", Cellars.rules(x, "sugar most 7;origin 1 least 5;"), 2);
        due.is("the text stays", x.count(13), 30);
        due.is("read", Cellars.rules(x, "year 2010 least 5;"), 1);
        due.is("rules", x.count(4), 3);
        due.is("behind those that there are", x.rule(2, 0), 2);
        due.is("rule(0, 0)", x.rule(0, 0), 8);
        due.is("rule(1, 1)", x.rule(1, 1), 1);
        due.is("undo", x.undo(), 2);
        due.is("rules", x.count(4), 2);
        due.is("the text is not undone", x.count(13), 18);
        due.is("read again", x.read(), 1);
        due.is("rules", x.count(4), 3);
    }
}
