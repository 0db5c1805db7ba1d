import java.util.function.Consumer;
import java.util.function.Supplier;
import java.util.function.ToIntFunction;

/** The sentences of the document on changes and errors: which error it is, and that it changes nothing; all promises. */
public final class ErrorsTest {
    private static final String PART = "Changes and errors";

    private final Due due;

    private ErrorsTest(Due due) {
        this.due = due;
    }

    public static void main(String[] args) {
        Due due = new Due("changes and errors");
        ErrorsTest test = new ErrorsTest(due);
        test.constants();
        test.whichError();
        test.errorsOfLots();
        test.errorsOfBlends();
        test.errorsOfTheRest();
        test.errorsOfFullCellars();
        test.refusedByLots();
        test.refusedByTheRest();
        test.lotNumbers();
        test.changes();
        test.questions();
        due.end();
    }

    private void constants() {
        due.sentence("Promises 1 to 28", PART, "INVALID_ARGUMENT = -1: An argument is out of its range.");
        due.is("INVALID_ARGUMENT", VineyardBlends.INVALID_ARGUMENT, -1);
        due.sentence("Promises 1 to 28", PART, "NOT_POSSIBLE = -2: The call is not possible in the present state.");
        due.is("NOT_POSSIBLE", VineyardBlends.NOT_POSSIBLE, -2);
        due.sentence("Promises 1 to 28", PART, "LIMIT_REACHED = -3: A fixed limit has been reached.");
        due.is("LIMIT_REACHED", VineyardBlends.LIMIT_REACHED, -3);
        due.sentence("Promises 1 to 28", PART, "NOT_FOUND = -4: There is no such thing.");
        due.is("NOT_FOUND", VineyardBlends.NOT_FOUND, -4);
    }

    /** Lot 0 of two grains in oak, lot 1 gone, two rules, a text with a fault, scores, and a full history. */
    private static VineyardBlends small() {
        VineyardBlends x = new VineyardBlends();
        x.bring(60, 1, 2020, 3, 1200, 60);
        x.bring(30, 2, 2021, 4, 1000, 80);
        x.recipe(0, 2);
        x.recipe(1, 1);
        x.blend(90, 1);
        x.bring(40, 5, 2010, 9, 900, 20);
        Cellars.rules(x, "sugar most 400;acid most 70;");
        Cellars.text(x, "sugar most 400;");
        x.score(2, 1, 150);
        x.score(2, 6, 10);
        x.sweeten(2, 17);
        x.recipe(2, 3);
        x.recipe(3, 2);
        return x;
    }

    /** The call answers the error, and behind it the cellar is as one where it was not made, back to the state before. */
    private void error(String call, int want, Supplier<VineyardBlends> cellar, ToIntFunction<VineyardBlends> answer) {
        VineyardBlends x = cellar.get();
        due.is(call, answer.applyAsInt(x), want);
        due.is("state behind " + call, Snapshot.andBefore(x), Snapshot.andBefore(cellar.get()));
    }

    private void error(String call, int want, ToIntFunction<VineyardBlends> answer) {
        error(call, want, ErrorsTest::small, answer);
    }

    private void whichError() {
        due.sentence("Promises 1 to 28", PART, "INVALID_ARGUMENT is returned rather than NOT_FOUND");
        error("sweeten(9, 501)", -1, x -> x.sweeten(9, 501));
        error("move(9, 2)", -1, x -> x.move(9, 2));
        error("lot(9, 9)", -1, x -> x.lot(9, 9));
        error("grain(9, -1, 0)", -1, x -> x.grain(9, -1, 0));
        error("grain(9, 0, 4)", -1, x -> x.grain(9, 0, 4));
        error("grain(2, 9, 4)", -1, x -> x.grain(2, 9, 4));
        error("share(9, 3, 0)", -1, x -> x.share(9, 3, 0));
        error("share(9, 0, 8)", -1, x -> x.share(9, 0, 8));
        error("share(9, 1, 7)", -1, x -> x.share(9, 1, 7));
        error("recipe(9, 21)", -1, x -> x.recipe(9, 21));
        error("partsFor(9, 9, 0, 0)", -1, x -> x.partsFor(9, 9, 0, 0));
        error("partsFor(9, 2, 3, 0)", -1, x -> x.partsFor(9, 2, 3, 0));
        error("partsFor(2, 9, 0, 2001)", -1, x -> x.partsFor(2, 9, 0, 2001));
        error("partsFor(9, -1, 0, 0)", -1, x -> x.partsFor(9, -1, 0, 0));
        error("partsFor(-1, 9, 0, 0)", -1, x -> x.partsFor(-1, 9, 0, 0));
        error("score(9, 8, 0)", -1, x -> x.score(9, 8, 0));
        error("score(9, 0, 201)", -1, x -> x.score(9, 0, 201));
        error("panel(9, 5)", -1, x -> x.panel(9, 5));
        error("panel(3, 5)", -1, x -> x.panel(3, 5));
        error("bottle(9, 0, 100)", -1, x -> x.bottle(9, 0, 100));
        error("bottle(9, 1, 301)", -1, x -> x.bottle(9, 1, 301));
        error("rule(9, 3)", -1, x -> x.rule(9, 3));
        error("fault(2)", -1, x -> x.fault(2));

        due.sentence("Promises 4, 18", PART, "NOT_FOUND rather than NOT_POSSIBLE");
        error("move(9, 0)", -4, x -> x.move(9, 0));
        error("bottle(9, 10000, 100)", -4, x -> x.bottle(9, 10000, 100));
        error("bottle(1, 10000, 100)", -4, x -> x.bottle(1, 10000, 100));

        due.sentence("Promises 4, 10", PART, "NOT_POSSIBLE rather than LIMIT_REACHED");
        VineyardBlends six = Cellars.withLots(6);
        due.is("move to steel, where it is, and where 6 are", six.move(0, 0), -2);
        six.recipe(0, 1);
        due.is("blend of too much, where 6 lots are", six.blend(11, 0), -2);
        Cellars.rules(six, "acid most 0;");
        due.is("blend that breaks a rule, where 6 lots are", six.blend(1, 0), -2);
        six.dropRule(0);
        due.is("blend, where 6 lots are", six.blend(1, 0), -3);
        six.recipe(0, 0);
        due.is("blend by no recipe, where 6 lots are", six.blend(1, 0), -2);

        due.sentence("Promises 2, 4, 9, 10, 25", PART, "INVALID_ARGUMENT is returned rather than NOT_FOUND, NOT_FOUND rather than NOT_POSSIBLE, "
                + "and NOT_POSSIBLE rather than LIMIT_REACHED");
        due.is("bring a wrong one, where 6 lots are", six.bring(0, 0, 2000, 0, 0, 0), -1);
        due.is("blend a wrong one, where 6 lots are", six.blend(0, 0), -1);
        due.is("blend to no kind, by no recipe", six.blend(1, 2), -1);
        due.is("ifBlend of nothing, by no recipe", six.ifBlend(1, 8), -1);
        due.is("move to no kind, where it is", six.move(0, -1), -1);
        due.is("move no lot to steel, where 6 are", six.move(7, 0), -4);
        for (int i = 0; i < 6; i++) {
            six.recipe(i, 1);
        }
        due.is("recipe of a seventh lot that is none", six.recipe(6, 1), -4);
        due.is("recipe of a seventh lot with a wrong number", six.recipe(-1, 1), -1);
        due.is("recipe of a seventh lot with wrong parts", six.recipe(6, 21), -1);
        Cellars.text(six, "x".repeat(100));
        due.is("type a wrong character into a full text", six.type(127), -1);
        due.is("type into a full text", six.type(126), -3);
        due.is("bottle of a wrong size more than there is", six.bottle(0, 10000, 9), -1);
        due.is("bottle more than there is", six.bottle(0, 10000, 10), -2);
    }

    private void errorsOfLots() {
        due.sentence("Promises 2 to 8", PART, "A call that returns an error changes nothing.");
        error("bring(0, ..)", -1, x -> x.bring(0, 0, 2000, 0, 0, 0));
        error("bring(.., 201)", -1, x -> x.bring(1, 0, 2000, 0, 0, 201));
        error("sweeten(2, 501)", -1, x -> x.sweeten(2, 501));
        error("sweeten(1, 5)", -4, x -> x.sweeten(1, 5));
        error("move(2, 2)", -1, x -> x.move(2, 2));
        error("move(1, 1)", -4, x -> x.move(1, 1));
        error("move(2, 1)", -2, x -> x.move(2, 1));
        error("lot(2, 9)", -1, x -> x.lot(2, 9));
        error("lot(1, 0)", -4, x -> x.lot(1, 0));
        error("grain(2, 0, 4)", -1, x -> x.grain(2, 0, 4));
        error("grain(2, 2, 0)", -4, x -> x.grain(2, 2, 0));
        error("share(2, 0, 8)", -1, x -> x.share(2, 0, 8));
        error("share(1, 0, 7)", -4, x -> x.share(1, 0, 7));
        error("bits(-1)", -1, x -> (int) x.bits(-1));
        error("bits(1)", -4, x -> (int) x.bits(1));
    }

    private void errorsOfBlends() {
        due.sentence("Promises 9 to 13", PART, "A call that returns an error changes nothing.");
        error("recipe(2, 21)", -1, x -> x.recipe(2, 21));
        error("recipe(1, 0)", -4, x -> x.recipe(1, 0));
        error("blend(0, 0)", -1, x -> x.blend(0, 0));
        error("blend(1, 2)", -1, x -> x.blend(1, 2));
        error("blend(10000, 0)", -2, x -> x.blend(10000, 0));
        error("blend(1, 0) that breaks a rule", -2, () -> {
            VineyardBlends x = small();
            x.clearText();
            Cellars.rules(x, "alcohol most 1;");
            return x;
        }, x -> x.blend(1, 0));
        error("blend(10, 0) by no recipe", -2, () -> {
            VineyardBlends x = small();
            x.recipe(2, 0);
            x.recipe(3, 0);
            return x;
        }, x -> x.blend(10, 0));
        error("ifBlend(0, 0)", -1, x -> x.ifBlend(0, 0));
        error("ifBlend(10000, 0)", -2, x -> x.ifBlend(10000, 0));
        error("mostLitres by no recipe", -2, () -> Cellars.withLots(2), x -> x.mostLitres());
        error("partsFor(2, 2, 0, 0)", -1, x -> x.partsFor(2, 2, 0, 0));
        error("partsFor(2, 1, 0, 0)", -4, x -> x.partsFor(2, 1, 0, 0));
    }

    private void errorsOfTheRest() {
        due.sentence("Promises 14 to 16", PART, "A call that returns an error changes nothing.");
        error("score(2, 8, 5)", -1, x -> x.score(2, 8, 5));
        error("score(2, 1, -2)", -1, x -> x.score(2, 1, -2));
        error("score(1, 1, 5)", -4, x -> x.score(1, 1, 5));
        error("panel(2, 5)", -1, x -> x.panel(2, 5));
        error("panel(3, 0)", -4, x -> x.panel(3, 0));
        error("ranked(-1)", -1, x -> x.ranked(-1));
        error("ranked(1)", -4, x -> x.ranked(1));
        due.sentence("Promises 17 to 22", PART, "A call that returns an error changes nothing.");
        error("months(0)", -1, x -> x.months(0));
        error("months(61)", -1, x -> x.months(61));
        error("bottle(2, 1, 9)", -1, x -> x.bottle(2, 1, 9));
        error("bottle(1, 1, 10)", -4, x -> x.bottle(1, 1, 10));
        error("bottle(2, 91, 10)", -2, x -> x.bottle(2, 91, 10));
        error("bottle(2, 1, 10) of a lot that breaks a rule", -2, () -> {
            VineyardBlends x = small();
            Cellars.rules(x, "acid most 65;");
            return x;
        }, x -> x.bottle(2, 1, 10));
        error("set(4, 0)", -1, x -> x.set(4, 0));
        error("set(0, 101)", -1, x -> x.set(0, 101));
        error("account(8)", -1, x -> x.account(8));
        error("count(14)", -1, x -> x.count(14));
        error("undo of nothing", -2, VineyardBlends::new, x -> x.undo());
        due.sentence("Promises 23 to 28", PART, "A call that returns an error changes nothing.");
        error("rule(0, 3)", -1, x -> x.rule(0, 3));
        error("rule(2, 0)", -4, x -> x.rule(2, 0));
        error("rule(0, 1)", -4, x -> x.rule(0, 1));
        error("dropRule(-1)", -1, x -> x.dropRule(-1));
        error("dropRule(2)", -4, x -> x.dropRule(2));
        error("type(31)", -1, x -> x.type(31));
        error("type(127)", -1, x -> x.type(127));
        error("fault(2)", -1, x -> x.fault(2));
        error("fault(0) of no text", -4, () -> {
            VineyardBlends x = small();
            x.clearText();
            return x;
        }, x -> x.fault(0));
        error("read", -2, x -> x.read());
    }

    private void errorsOfFullCellars() {
        due.sentence("Promises 2, 4, 9, 10, 25", PART, "A call that returns an error changes nothing.");
        Supplier<VineyardBlends> steel = () -> Cellars.withLots(6);
        error("bring", -3, steel, x -> x.bring(10, 7, 2063, 9, 0, 0));
        Supplier<VineyardBlends> recipe = () -> {
            VineyardBlends x = Cellars.withLots(6);
            x.move(5, 1);
            x.bring(10, 7, 2063, 9, 0, 0);
            for (int lot = 0; lot < 6; lot++) {
                x.recipe(lot, 3);
            }
            return x;
        };
        error("recipe of a seventh lot", -3, recipe, x -> x.recipe(6, 1));
        error("move to steel", -3, recipe, x -> x.move(5, 0));
        error("blend to steel", -3, recipe, x -> x.blend(1, 0) == -2 ? -2 : x.blend(5, 0));
        error("type into a full text", -3, () -> {
            VineyardBlends x = Cellars.withLots(1);
            Cellars.text(x, "acid most 5;".repeat(9));
            return x;
        }, x -> x.type(126));
        VineyardBlends grains = Cellars.fullOfGrains();
        String before = countsAndAccounts(grains);
        due.is("bring to 200 grains", grains.bring(1, 0, 2000, 0, 0, 0), -3);
        due.is("state behind it", countsAndAccounts(grains), before);
        grains.recipe(30, 1);
        before = countsAndAccounts(grains);
        due.is("blend to 201 grains", grains.blend(1, 0), -3);
        due.is("state behind it", countsAndAccounts(grains), before);
        due.is("litres of its lot", grains.lot(30, 0), 200);
        due.is("its first grain", grains.grain(30, 0, 3), 10);
    }

    private void refusedByLots() {
        String outOfRange = "INVALID_ARGUMENT if an argument is out of range";
        String orNotFound = "INVALID_ARGUMENT if an argument is out of range; NOT_FOUND.";
        due.sentence("Promise 2", outOfRange);
        error("bring(-1, -1, ..)", -1, x -> x.bring(-1, -1, -1, -1, -1, -1));
        error("bring of the greatest", -1, x -> x.bring(10001, 8, 2064, 10, 2001, 201));
        due.sentence("Promise 3", orNotFound);
        error("sweeten(-1, -1)", -1, x -> x.sweeten(-1, -1));
        error("sweeten(4, 500)", -4, x -> x.sweeten(4, 500));
        due.sentence("Promise 4", "INVALID_ARGUMENT if an argument is out of range; NOT_FOUND; NOT_POSSIBLE if it is there already");
        error("move(-1, -1)", -1, x -> x.move(-1, -1));
        error("move(4, 1)", -4, x -> x.move(4, 1));
        error("move(3, 0)", -2, x -> x.move(3, 0));
        due.sentence("Promise 5", orNotFound);
        error("lot(-1, -1)", -1, x -> x.lot(-1, -1));
        error("lot(4, 8)", -4, x -> x.lot(4, 8));
        due.sentence("Promise 7", orNotFound);
        error("share(-1, -1, -1)", -1, x -> x.share(-1, -1, -1));
        error("share(4, 2, 9)", -4, x -> x.share(4, 2, 9));
        due.sentence("Promise 8", "INVALID_ARGUMENT if lot is negative; NOT_FOUND.");
        error("bits(MIN)", -1, x -> (int) x.bits(Integer.MIN_VALUE));
        error("bits(4)", -4, x -> (int) x.bits(4));
        due.sentence("Promise 9", "INVALID_ARGUMENT if an argument is out of range; NOT_FOUND; LIMIT_REACHED if the recipe would have 7 lots.");
        error("recipe(-1, -1)", -1, x -> x.recipe(-1, -1));
        error("recipe(4, 20)", -4, x -> x.recipe(4, 20));
        due.sentence("Promise 10", outOfRange);
        error("blend(-1, -1)", -1, x -> x.blend(-1, -1));
        error("blend(10001, 2)", -1, x -> x.blend(10001, 2));
        due.sentence("Promise 11", outOfRange);
        error("ifBlend(-1, -1)", -1, x -> x.ifBlend(-1, -1));
        error("ifBlend(10001, 8)", -1, x -> x.ifBlend(10001, 8));
        due.sentence("Promise 12", "NOT_FOUND if there is none.");
        for (int parts = 1; parts <= 20; parts++) {
            VineyardBlends least = new VineyardBlends();
            for (int lot = 0; lot < 6; lot++) {
                least.bring(1, 0, 2000, 0, 0, 0);
                least.recipe(lot, lot == 0 ? parts : 1 + lot);
            }
            due.is("1 litre can always be taken", least.mostLitres() >= 1 ? 1 : 0, 1);
        }
    }

    private void refusedByTheRest() {
        String outOfRange = "INVALID_ARGUMENT if an argument is out of range";
        String orNotFound = "INVALID_ARGUMENT if an argument is out of range; NOT_FOUND.";
        due.sentence("Promise 14", orNotFound);
        error("score(-1, -1, -2)", -1, x -> x.score(-1, -1, -2));
        error("score(4, 7, -1)", -4, x -> x.score(4, 7, -1));
        due.sentence("Promise 15", outOfRange);
        error("panel(-1, -1)", -1, x -> x.panel(-1, -1));
        due.sentence("Promise 17", "INVALID_ARGUMENT if months is out of range.");
        error("months(-1)", -1, x -> x.months(-1));
        due.sentence("Promise 18", "INVALID_ARGUMENT if an argument is out of range; NOT_FOUND");
        error("bottle(-1, -1, -1)", -1, x -> x.bottle(-1, -1, -1));
        error("bottle(2, 10001, 10)", -1, x -> x.bottle(2, 10001, 10));
        error("bottle(4, 10000, 300)", -4, x -> x.bottle(4, 10000, 300));
        due.sentence("Promise 19", outOfRange);
        error("set(-1, -1)", -1, x -> x.set(-1, -1));
        error("set(4, 1001)", -1, x -> x.set(4, 1001));
        due.sentence("Promise 20", "INVALID_ARGUMENT if what is out of range.");
        error("account(-1)", -1, x -> x.account(-1));
        due.sentence("Promise 21", "INVALID_ARGUMENT if what is out of range.");
        error("count(-1)", -1, x -> x.count(-1));
        due.sentence("Promise 25", "INVALID_ARGUMENT if character is out of range");
        error("type(-1)", -1, x -> x.type(-1));
        due.sentence("Promise 27", "INVALID_ARGUMENT if what is out of range");
        error("fault(-1)", -1, x -> x.fault(-1));
    }

    private static String countsAndAccounts(VineyardBlends x) {
        StringBuilder seen = new StringBuilder();
        for (int what = 0; what < 14; what++) {
            seen.append(x.count(what)).append(' ');
        }
        for (int what = 0; what < 8; what++) {
            seen.append(x.account(what)).append(' ');
        }
        return seen.toString();
    }

    private void lotNumbers() {
        due.sentence("Promises 3 to 18", PART, "A lot that is gone, or has not come yet, is NOT_FOUND; a negative number of a lot is INVALID_ARGUMENT.");
        int[] lots = {1, 4, 12, Integer.MAX_VALUE, -1, -4, Integer.MIN_VALUE};
        for (int lot : lots) {
            int want = lot < 0 ? -1 : -4;
            error("sweeten(" + lot + ", 0)", want, x -> x.sweeten(lot, 0));
            error("move(" + lot + ", 0)", want, x -> x.move(lot, 0));
            error("lot(" + lot + ", 0)", want, x -> x.lot(lot, 0));
            error("grain(" + lot + ", 0, 0)", want, x -> x.grain(lot, 0, 0));
            error("share(" + lot + ", 0, 0)", want, x -> x.share(lot, 0, 0));
            error("bits(" + lot + ")", want, x -> (int) x.bits(lot));
            error("recipe(" + lot + ", 1)", want, x -> x.recipe(lot, 1));
            error("partsFor(" + lot + ", 2, 0, 0)", want, x -> x.partsFor(lot, 2, 0, 0));
            error("partsFor(2, " + lot + ", 0, 0)", want, x -> x.partsFor(2, lot, 0, 0));
            error("score(" + lot + ", 0, 0)", want, x -> x.score(lot, 0, 0));
            error("panel(" + lot + ", 0)", want, x -> x.panel(lot, 0));
            error("bottle(" + lot + ", 1, 100)", want, x -> x.bottle(lot, 1, 100));
        }
    }

    /** A lot, a recipe and a rule, made by three changes. */
    private static VineyardBlends inSteel() {
        VineyardBlends x = new VineyardBlends();
        x.bring(60, 1, 2020, 3, 1200, 60);
        x.recipe(0, 2);
        Cellars.rules(x, "acid most 60;");
        x.clearText();
        return x;
    }

    /** A lot in oak and a recipe, made by three changes. */
    private static VineyardBlends inOak() {
        VineyardBlends x = new VineyardBlends();
        x.bring(6000, 1, 2020, 3, 1200, 60);
        x.recipe(0, 2);
        x.move(0, 1);
        return x;
    }

    private void change(String call, Consumer<VineyardBlends> made) {
        change(call, inSteel(), made);
    }

    /** A change is recorded as the fourth state, and undo brings back all that was before it. */
    private void change(String call, VineyardBlends x, Consumer<VineyardBlends> made) {
        String before = seen(x);
        due.is("states before " + call, x.count(12), 3);
        made.accept(x);
        due.is("states behind " + call, x.count(12), 4);
        due.is("undo of " + call, x.undo(), 3);
        due.is("state behind undo of " + call, seen(x), before);
    }

    private static String seen(VineyardBlends x) {
        String state = Snapshot.of(x);
        return state.substring(0, state.indexOf(" fault"));
    }

    private void changes() {
        due.sentence("Promises 2 to 28", PART, "The changes are the calls of bring, sweeten, move, recipe, blend, score, months, bottle, set, read and dropRule "
                + "that return no error.");
        change("bring", x -> x.bring(5, 7, 2063, 9, 2000, 200));
        change("sweeten", x -> x.sweeten(0, 500));
        change("sweeten to the same", x -> x.sweeten(0, 0));
        change("move", x -> x.move(0, 1));
        change("recipe", x -> x.recipe(0, 20));
        change("recipe of the same", x -> x.recipe(0, 2));
        change("recipe of nothing", x -> x.recipe(0, 0));
        change("blend", x -> x.blend(59, 1));
        change("blend of all", x -> x.blend(60, 1));
        change("score", x -> x.score(0, 7, 0));
        change("a score taken back that was not given", x -> x.score(0, 7, -1));
        change("months in which nothing evaporates", x -> x.months(60));
        change("bottle", x -> x.bottle(0, 1, 300));
        change("bottle of all", x -> x.bottle(0, 60, 10));
        change("set", x -> x.set(3, 1000));
        change("set to the same", x -> x.set(3, 0));
        change("read of no text", x -> x.read());
        change("dropRule", x -> x.dropRule(0));
        change("months in which litres evaporate", inOak(), x -> x.months(60));
        change("move to steel", inOak(), x -> x.move(0, 0));
        change("blend with a loss", inOak(), x -> x.blend(6000, 1));
        change("bottle with some left over", inOak(), x -> x.bottle(0, 1000, 299));
    }

    private void noChange(String call, Consumer<VineyardBlends> made) {
        VineyardBlends x = small();
        made.accept(x);
        due.is("states behind " + call, x.count(12), 4);
        due.is("undo behind " + call, seen(back(x)), seen(back(small())));
    }

    private static VineyardBlends back(VineyardBlends x) {
        x.undo();
        Cellars.text(x, "");
        return x;
    }

    private void questions() {
        due.sentence("Promises 5 to 27", PART, "each change records everything before it but the text");
        noChange("type", x -> x.type(32));
        noChange("clearText", x -> x.clearText());
        noChange("questions", x -> {
            x.lot(2, 0);
            x.grain(2, 0, 0);
            x.share(2, 0, 0);
            x.bits(2);
            x.ifBlend(10, 0);
            x.mostLitres();
            x.partsFor(2, 3, 0, 1000);
            x.panel(2, 0);
            x.ranked(0);
            x.account(0);
            x.count(0);
            x.rule(0, 0);
            x.fault(0);
        });
        due.sentence("Promise 22", PART, "if there are 5 states then, the oldest one is dropped");
        VineyardBlends x = small();
        int[] inRecipe = {1, 0, 0, 0};
        int[] sugar = {17, 17, 0, 0};
        int[] scores = {2, 2, 2, 1};
        for (int back = 0; back < 4; back++) {
            due.is("undo", x.undo(), 3 - back);
            due.is("recipe behind undo " + back, x.count(5), inRecipe[back]);
            due.is("sugar behind undo " + back, x.lot(2, 4), sugar[back]);
            due.is("scores behind undo " + back, x.lot(2, 7), scores[back]);
        }
        due.is("no more", x.undo(), -2);
    }
}
