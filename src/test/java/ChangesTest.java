import java.util.function.Consumer;

/** What each change changes, what it leaves as it was, and what undo restores: promises 2 to 28. */
public final class ChangesTest {
    private final Due due;

    private ChangesTest(Due due) {
        this.due = due;
    }

    public static void main(String[] args) {
        Due due = new Due("changes");
        ChangesTest test = new ChangesTest(due);
        test.changesOfLots();
        test.changesOfBlends();
        test.changesOfScores();
        test.changesOfTime();
        test.changesOfSettings();
        test.changesOfRules();
        test.texts();
        test.undo();
        test.undoOfMany();
        due.end();
    }

    /** The call changes what is told here and nothing else, and undo restores all that was before it. */
    private void change(String call, Consumer<VineyardBlends> made, String... changes) {
        VineyardBlends x = Cellars.rich();
        Snapshot before = new Snapshot(x);
        made.accept(x);
        due.is("what " + call + " changes", before.changesTo(new Snapshot(x)), String.join(" ", changes));
        x.undo();
        due.is("what undo of " + call + " leaves changed", before.changesTo(new Snapshot(x)), "count(12)=3;");
    }

    /** As change, for a call that is none: nothing of it is recorded. */
    private void noChange(String call, Consumer<VineyardBlends> made, String... changes) {
        VineyardBlends x = Cellars.rich();
        Snapshot before = new Snapshot(x);
        made.accept(x);
        due.is("what " + call + " changes", before.changesTo(new Snapshot(x)), String.join(" ", changes));
    }

    private static String lot(int lot, int... properties) {
        return answers("lot(" + lot, properties);
    }

    private static String grain(int lot, int grain, int... properties) {
        return answers("grain(" + lot + ", " + grain, properties);
    }

    private static String noScores(int lot) {
        return answers("panel(" + lot, -4, -4, -4, -4);
    }

    private static String answers(String call, int... answers) {
        StringBuilder all = new StringBuilder();
        for (int what = 0; what < answers.length; what++) {
            all.append(call).append(", ").append(what).append(")=").append(answers[what]).append("; ");
        }
        return all.toString().trim();
    }

    private static String gone(String call, int many) {
        StringBuilder all = new StringBuilder();
        for (int what = 0; what < many; what++) {
            all.append(call).append(", ").append(what).append(") gone; ");
        }
        return all.toString().trim();
    }

    private void changesOfLots() {
        due.sentence("Promise 2", "Brings a lot of one grain, in steel.");
        change("bring", x -> x.bring(7, 5, 2008, 9, 700, 33),
                "count(0)=4; count(1)=3; count(3)=5; count(6)=4; account(0)=707; account(4)=680;",
                lot(3, 7, 1, 700, 33, 0, 0, 0, 0, 0), grain(3, 0, 5, 2008, 9, 7), noScores(3),
                "bits(3)=" + (1L | 1L << 61) + ";");
        due.sentence("Promise 3", "Sweetens a lot: its sugar is set.");
        change("sweeten", x -> x.sweeten(0, 77), "lot(0, 4)=77;");
        change("sweeten above a rule", x -> x.sweeten(0, 401), "lot(0, 4)=401; lot(0, 6)=1;");
        change("sweeten to what it is", x -> x.sweeten(1, 40));
        due.sentence("Promise 4", "Moves a lot to steel or to oak.");
        change("move to oak", x -> x.move(1, 1), "count(1)=1; count(2)=2; lot(1, 5)=1;");
        change("move to steel", x -> x.move(2, 0), "count(1)=3; count(2)=0; lot(2, 5)=0;");
    }

    private void changesOfBlends() {
        due.sentence("Promise 9", "Sets the parts of a lot in the recipe.");
        change("recipe", x -> x.recipe(1, 7), "lot(1, 8)=7;");
        due.sentence("Promise 9", "parts: 0 to 20; 0 takes it out");
        change("recipe of no parts", x -> x.recipe(1, 0), "count(5)=2; lot(1, 8)=0;");
        due.sentence("Promise 10", "Makes a blend by the recipe.");
        change("blend", x -> x.blend(120, 0),
                "count(0)=4; count(1)=3; count(3)=6; count(6)=4; account(1)=16; account(4)=667;",
                "lot(0, 0)=209; grain(0, 0, 3)=209; lot(1, 0)=180; grain(1, 0, 3)=180;",
                "lot(2, 0)=164; grain(2, 0, 3)=98; grain(2, 1, 3)=66;",
                lot(3, 114, 2, 1120, 68, 16, 0, 0, 0, 0), grain(3, 0, 1, 2020, 3, 68), grain(3, 1, 2, 2021, 4, 46),
                noScores(3), "bits(3)=" + (3L << 57 | 3L << 12) + ";");
        due.sentence("Promise 10", "Blends", "A lot that is gone leaves the recipe.");
        VineyardBlends x = Cellars.rich();
        x.recipe(0, 0);
        x.recipe(1, 0);
        Snapshot before = new Snapshot(x);
        x.blend(184, 1);
        due.is("what a blend of all of a lot changes", before.changesTo(new Snapshot(x)), String.join(" ",
                "count(5)=0; count(6)=4; count(11)=1; account(1)=19; account(4)=664;",
                gone("lot(2", 9), gone("grain(2, 0", 4), gone("grain(2, 1", 4), gone("panel(2", 4), "bits(2) gone; ranked(1) gone;",
                lot(3, 175, 2, 1120, 68, 16, 1, 0, 0, 0), grain(3, 0, 1, 2020, 3, 105), grain(3, 1, 2, 2021, 4, 70),
                noScores(3), "bits(3)=" + (3L << 57 | 3L << 12) + ";"));
    }

    private void changesOfScores() {
        due.sentence("Promise 14", "Gives a lot a score, in place of what this taster gave it before.");
        change("score", x -> x.score(0, 7, 170), "lot(0, 7)=3; panel(0, 0)=170; panel(0, 1)=2; panel(0, 2)=1;",
                "panel(0, 3)=" + Float.floatToIntBits(175f) + ";");
        change("score in place", x -> x.score(0, 0, 99), "panel(0, 0)=99; panel(0, 3)=" + Float.floatToIntBits(99f) + ";");
        change("the same score", x -> x.score(0, 0, 100));
        due.sentence("Promise 14", "value: 0 to 200, or -1 to take the score back");
        change("a score taken back", x -> x.score(0, 5, -1), "lot(0, 7)=1; panel(0, 2)=0;");
        change("the last score taken back", x -> x.score(2, 1, -1), "count(11)=1; lot(2, 7)=0;", noScores(2), "ranked(1) gone;");
        change("no score taken back", x -> x.score(2, 2, -1));
        due.sentence("Promise 16", "Panel", "The ranking has all lots with scores, by descending marks");
        change("a better score", x -> x.score(2, 1, 101), "panel(2, 0)=101; panel(2, 3)=" + Float.floatToIntBits(101f) + ";",
                "ranked(0)=2; ranked(1)=0;");
    }

    private void changesOfTime() {
        due.sentence("Promise 17", "Lets months go by.");
        change("months", x -> x.months(1), "account(2)=9; account(4)=670; lot(2, 0)=181; grain(2, 0, 3)=108; grain(2, 1, 3)=73;");
        due.sentence("Promise 18", "Bottles litres of a lot.");
        change("bottle", x -> x.bottle(2, 10, 130), "account(3)=21; account(4)=663; account(5)=21; account(7)=140;",
                "lot(2, 0)=174; grain(2, 0, 3)=104; grain(2, 1, 3)=70;");
        change("bottle of all of a lot", x -> x.bottle(2, 184, 100),
                "count(0)=2; count(2)=0; count(3)=2; count(5)=2; count(11)=1; account(3)=195; account(4)=489; account(5)=198;",
                gone("lot(2", 9), gone("grain(2, 0", 4), gone("grain(2, 1", 4), gone("panel(2", 4), "bits(2) gone; ranked(1) gone;");
        due.sentence("Promise 18", "Panel", "Every bottle whose number, from 1 on over the whole run (each call is a run), is divisible by the setting reject "
                + "(if this is above 0) is broken.");
        VineyardBlends x = Cellars.rich();
        x.set(3, 2);
        String[] runs = {
            "account(3)=20; account(4)=664; account(5)=19; account(6)=4; lot(2, 0)=175; grain(2, 0, 3)=105; grain(2, 1, 3)=70;",
            "account(3)=29; account(4)=655; account(5)=24; account(6)=8; lot(2, 0)=166; grain(2, 0, 3)=100; grain(2, 1, 3)=66;"
        };
        for (String run : runs) {
            Snapshot before = new Snapshot(x);
            due.is("full bottles that are not broken", x.bottle(2, 9, 100), 5);
            due.is("what a run of 9 bottles changes", before.changesTo(new Snapshot(x)), run);
        }
    }

    private void changesOfSettings() {
        due.sentence("Promise 19", "Sets a setting.");
        change("loss", x -> x.set(0, 7), "count(7)=7;");
        change("span", x -> x.set(1, 100), "count(8)=100; panel(0, 1)=2; panel(0, 2)=0; panel(0, 3)=" + Float.floatToIntBits(140f) + ";");
        change("evaporation", x -> x.set(2, 7), "count(9)=7;");
        change("reject", x -> x.set(3, 7), "count(10)=7;");
        change("a setting to what it is", x -> x.set(2, 20));
    }

    private void changesOfRules() {
        due.sentence("Promise 28", "Makes the rules of the text, behind those that there are. The text stays.");
        change("read", x -> x.read(), "count(4)=3; fault(0)=0; fault(1)=5; rule(2, 0)=7; rule(2, 1)=-4; rule(2, 2)=90;");
        due.sentence("Promise 24", "Removes a rule; the numbers of the later ones decrease by 1.");
        change("dropRule", x -> x.dropRule(0), "count(4)=1; rule(0, 0)=1; rule(0, 1)=2; rule(0, 2)=99;", gone("rule(1", 3), "lot(1, 6)=1;");
        change("dropRule of the last one", x -> x.dropRule(1), "count(4)=1;", gone("rule(1", 3), "lot(1, 6)=0;");
    }

    private void texts() {
        due.sentence("Promise 25", "Appends a character to the text.");
        noChange("type", x -> x.type('x'), "count(13)=14; fault(0)=13; fault(1)=1;");
        due.sentence("Promise 26", "Empties the text.");
        noChange("clearText", x -> x.clearText(), "count(13)=0;");
        due.sentence("Promise 22", "Changes and errors", "each change records everything before it but the text");
        noChange("undo, which leaves the text", x -> {
            x.sweeten(0, 5);
            Cellars.text(x, "sugar most");
            x.undo();
        }, "count(12)=3; count(13)=10; fault(0)=0; fault(1)=2;");
        noChange("undo of read, which leaves the text", x -> {
            x.read();
            x.undo();
        }, "count(12)=3;");
        noChange("undo behind clearText", x -> {
            x.read();
            x.clearText();
            x.undo();
        }, "count(12)=3; count(13)=0;");
    }

    private void undo() {
        due.sentence("Promise 22", "Restores the latest state of the history, which is removed from it.");
        noChange("undo", x -> x.undo(), "count(5)=2; count(12)=3; lot(2, 8)=0;");
        noChange("undo twice", x -> {
            x.undo();
            x.undo();
        }, "count(4)=0; count(5)=2; count(12)=2;", gone("rule(0", 3), gone("rule(1", 3), "lot(1, 6)=0; lot(2, 8)=0;");
        noChange("undo, and the same change again", x -> {
            x.undo();
            x.recipe(2, 1);
        });
        noChange("undo, which cannot be undone", x -> {
            x.sweeten(0, 5);
            x.sweeten(0, 6);
            x.undo();
            x.undo();
        }, "count(12)=2;");
        due.sentence("Promise 22", "Returns the number of states that are left in the history; NOT_POSSIBLE if it is empty.");
        VineyardBlends x = Cellars.rich();
        for (int left = 3; left >= 0; left--) {
            due.is("undo", x.undo(), left);
        }
        Snapshot before = new Snapshot(x);
        due.is("undo of nothing", x.undo(), -2);
        due.is("what it changes", before.changesTo(new Snapshot(x)), "");
    }

    /** Seven changes, of which the latest four can be undone, one after the other. */
    private void undoOfMany() {
        due.sentence("Promise 22", "Changes and errors", "A history of at most 4 states is kept");
        VineyardBlends x = new VineyardBlends();
        Snapshot[] states = new Snapshot[8];
        for (int change = 0; change < 7; change++) {
            states[change] = new Snapshot(x);
            step(x, change);
            due.is("states", x.count(12), Math.min(4, change + 1));
        }
        for (int back = 6; back >= 3; back--) {
            int left = back - 3;
            due.is("undo", x.undo(), left);
            due.is("what is not restored ahead of change " + back, states[back].changesTo(new Snapshot(x)), "count(12)=" + left + ";");
        }
        due.is("no more states", x.undo(), -2);
    }

    private static void step(VineyardBlends x, int change) {
        switch (change) {
            case 0: x.bring(100, 3, 2030, 2, 1100, 70); break;
            case 1: x.recipe(0, 4); break;
            case 2: x.set(0, 100); break;
            case 3: x.blend(50, 1); break;
            case 4: x.score(1, 4, 120); break;
            case 5: x.bottle(0, 50, 75); break;
            default: x.months(60);
        }
    }
}
