/** All promises: long runs of mixed calls, each answer compared with the model's, and the whole state now and then. */
public final class ModelTest {
    private static final int RUNS = 900;
    /** A run goes on until so many calls are made; its last step takes it to 512 at most. */
    private static final int CALLS = 508;

    private final Due due;
    private VineyardBlends x;
    private Model model;
    private long seed;
    private int calls;
    private int run;
    private String typing = "";
    private int style;

    private ModelTest(Due due) {
        this.due = due;
    }

    public static void main(String[] args) {
        Due due = new Due("against the model");
        ModelTest test = new ModelTest(due);
        for (int run = 0; run < RUNS; run++) {
            test.one(run);
        }
        due.end();
    }

    private void one(int number) {
        run = number;
        style = number % 6;
        seed = 77L * number + 5;
        calls = 0;
        typing = "";
        x = new VineyardBlends();
        model = new Model();
        if (style == 5) {
            fillWithGrains();
        }
        while (calls < CALLS) {
            if (pick(40) == 0) {
                lookAtAll();
            } else {
                call();
            }
        }
    }

    /** 200 grains can only be reached by blends of the same grains again and again. */
    private void fillWithGrains() {
        due("set", x.set(0, 0), model.set(0, 0));
        for (int round = 0; round < 3; round++) {
            for (int i = 0; i < 6; i++) {
                bringIntoRecipe();
            }
            due("blend", x.blend(600, 1), model.blend(600, 1));
        }
        for (int lot : new int[] {6, 13, 20}) {
            due("recipe", x.recipe(lot, 6), model.recipe(lot, 6));
        }
        bringIntoRecipe();
        bringIntoRecipe();
        due("blend", x.blend(2000, 1), model.blend(2000, 1));
        due("recipe", x.recipe(23, 1), model.recipe(23, 1));
        for (int i = 0; i < 9; i++) {
            int litres = 150 + pick(50);
            int kind = i < 5 ? 1 : 0;
            due("blend", x.blend(litres, kind), model.blend(litres, kind));
        }
    }

    private void bringIntoRecipe() {
        int lot = model.count(6);
        int origin = pick(8);
        int year = 2000 + pick(64);
        int variety = pick(10);
        due("bring", x.bring(100, origin, year, variety, 1000, lot), model.bring(100, origin, year, variety, 1000, lot));
        due("recipe", x.recipe(lot, 1), model.recipe(lot, 1));
    }

    /** A fixed sequence, so that a failing run can be run again. */
    private int pick(int many) {
        seed = seed * 6364136223846793005L + 1442695040888963407L;
        return (int) ((seed >>> 33) % many);
    }

    /** Mostly within the range, now and then at its edges or outside it. */
    private int in(int low, int high) {
        switch (pick(60)) {
            case 0:
                return low - 1;
            case 1:
                return high + 1;
            case 2:
            case 3:
                return low;
            case 4:
            case 5:
                return high;
            default:
                return low + pick(high - low + 1);
        }
    }

    private int someLot() {
        int next = model.count(6);
        return pick(20) == 0 ? in(0, next) : Math.max(0, next - 1 - pick(style == 5 ? 8 : 13));
    }

    private int someLitres() {
        switch (style) {
            case 0:
                return in(1, 10000);
            case 1:
                return in(1, 12);
            case 2:
                return in(1, 1000);
            default:
                return in(1, 200);
        }
    }

    private int blendLitres() {
        int most = model.mostLitres();
        if (most < 1 || pick(8) == 0) {
            return someLitres();
        }
        return pick(3) == 0 ? most : in(1, most);
    }

    private void due(String call, long got, long want) {
        calls++;
        due.is("run " + run + " call " + calls + ": " + call, got, want);
    }

    private void call() {
        int lot = someLot();
        switch (pick(34)) {
            case 0: case 1: case 2: case 3: case 4:
                bring();
                break;
            case 5: {
                int sugar = in(0, 500);
                due("sweeten", x.sweeten(lot, sugar), model.sweeten(lot, sugar));
                break;
            }
            case 6: case 7: {
                int kind = in(0, 1);
                due("move", x.move(lot, kind), model.move(lot, kind));
                break;
            }
            case 8: case 9: case 10: case 11: case 12: {
                int parts = in(0, style == 3 ? 3 : 20);
                due("recipe", x.recipe(lot, parts), model.recipe(lot, parts));
                break;
            }
            case 13: case 14: case 15: case 16: {
                int litres = blendLitres();
                int kind = in(0, 1);
                due("blend " + litres, x.blend(litres, kind), model.blend(litres, kind));
                break;
            }
            case 17: case 18: {
                int litres = blendLitres();
                int what = in(0, 7);
                due("ifBlend", x.ifBlend(litres, what), model.ifBlend(litres, what));
                break;
            }
            case 19:
                due("mostLitres", x.mostLitres(), model.mostLitres());
                break;
            case 20: {
                int second = someLot();
                int what = in(0, 2);
                int aim = pick(3) == 0 ? in(0, 2000) : Math.max(0, model.lot(lot, 2 + Math.max(0, what)) + pick(300) - 150);
                due("partsFor", x.partsFor(lot, second, what, aim), model.partsFor(lot, second, what, aim));
                break;
            }
            case 21: case 22: case 23: case 24: {
                int taster = in(0, 7);
                int value = pick(6) == 0 ? -1 : style < 3 ? in(0, 200) : 100 + pick(5);
                due("score", x.score(lot, taster, value), model.score(lot, taster, value));
                break;
            }
            case 25:
                if (pick(3) == 0) {
                    int months = in(1, style == 4 ? 60 : 5);
                    due("months " + months, x.months(months), model.months(months));
                }
                break;
            case 26:
                bottle(lot);
                break;
            case 27:
                set();
                break;
            case 28:
                due("undo", x.undo(), model.undo());
                break;
            case 29:
                dropRule();
                break;
            case 30: case 31:
                text();
                break;
            default:
                look(lot);
        }
    }

    private void bring() {
        int litres = someLitres();
        int origin = in(0, style == 3 ? 2 : 7);
        int year = style == 3 ? 2000 + pick(3) : in(2000, 2063);
        int variety = in(0, 9);
        int alcohol = in(0, 2000);
        int acid = in(0, 200);
        due("bring", x.bring(litres, origin, year, variety, alcohol, acid),
                model.bring(litres, origin, year, variety, alcohol, acid));
    }

    private void bottle(int lot) {
        int has = Math.max(1, model.lot(lot, 0));
        int litres = pick(6) == 0 ? has : pick(8) == 0 ? has + 1 : in(1, style == 5 ? has : Math.max(1, has / 4));
        int size = in(10, 300);
        due("bottle", x.bottle(lot, litres, size), model.bottle(lot, litres, size));
    }

    private void set() {
        int what = in(0, 3);
        int value = in(0, new int[] {100, 200, 100, 1000}[Math.min(3, Math.max(0, what))]);
        if (what == 0 && style == 5) {
            value = 0;
        }
        if (what == 3 && pick(2) == 0) {
            value = pick(9);
        }
        due("set", x.set(what, value), model.set(what, value));
    }

    private void dropRule() {
        int rules = model.count(4);
        int rule = pick(3) == 0 ? in(0, 8) : rules;
        if (rules > 2 && pick(4) != 0) {
            rule = pick(rules);
        }
        due("dropRule", x.dropRule(rule), model.dropRule(rule));
    }

    private void text() {
        int most = 1 + pick(40);
        for (int i = 0; i < most && calls < CALLS; i++) {
            if (typing.isEmpty()) {
                break;
            }
            int character = typing.charAt(0);
            typing = typing.substring(1);
            if (pick(250) == 0) {
                character = in(32, 126);
            }
            due("type " + character, x.type(character), model.type(character));
        }
        if (!typing.isEmpty() && pick(4) != 0) {
            return;
        }
        due("fault(0) " + typing, x.fault(0), model.fault(0));
        due("fault(1)", x.fault(1), model.fault(1));
        due("read", x.read(), model.read());
        if (pick(3) != 0) {
            due("clearText", x.clearText(), model.clearText());
        }
        if (typing.isEmpty()) {
            typing = someRule() + (pick(3) == 0 ? someRule() : "");
        }
    }

    private String someRule() {
        String[] sides = {"least", "most"};
        String side = sides[pick(2)];
        boolean mild = pick(3) != 0;
        switch (pick(6)) {
            case 0:
                return "origin " + in(0, 7) + " " + side + " " + (mild ? (side.equals("least") ? 0 : 100) : in(0, 100)) + ";";
            case 1:
                return "year " + in(2000, 2063) + " least " + (mild ? 0 : in(0, 100)) + ";";
            case 2:
                return "variety " + in(0, 9) + " least " + (mild ? 0 : in(0, 100)) + ";";
            case 3:
                return "alcohol " + side + " " + (mild ? (side.equals("least") ? pick(300) : 1700 + pick(300)) : in(0, 2000)) + ";";
            case 4:
                return "acid " + side + " " + (mild ? (side.equals("least") ? pick(20) : 180 + pick(20)) : in(0, 200)) + ";";
            default:
                return "sugar most " + (mild ? 400 + pick(100) : in(0, 500)) + ";";
        }
    }

    private void look(int lot) {
        switch (pick(9)) {
            case 0: {
                int what = in(0, 8);
                due("lot", x.lot(lot, what), model.lot(lot, what));
                break;
            }
            case 1: {
                int grain = in(0, 5);
                int what = in(0, 3);
                due("grain", x.grain(lot, grain, what), model.grain(lot, grain, what));
                break;
            }
            case 2: {
                int what = in(0, 2);
                int value = what == 1 ? in(2000, 2063) : in(0, 9);
                due("share", x.share(lot, what, value), model.share(lot, what, value));
                break;
            }
            case 3:
                due("bits", x.bits(lot), model.bits(lot));
                break;
            case 4: {
                int what = in(0, 4);
                due("panel", x.panel(lot, what), model.panel(lot, what));
                break;
            }
            case 5: {
                int place = in(0, 4);
                due("ranked", x.ranked(place), model.ranked(place));
                break;
            }
            case 6: {
                int what = in(0, 7);
                due("account", x.account(what), model.account(what));
                break;
            }
            case 7: {
                int what = in(0, 13);
                due("count", x.count(what), model.count(what));
                break;
            }
            default: {
                int rule = in(0, 8);
                int what = in(0, 2);
                due("rule", x.rule(rule, what), model.rule(rule, what));
            }
        }
    }

    /** As far as the calls reach: every lot with its grains, the panel, the rules, the accounts and the counts. */
    private void lookAtAll() {
        for (int what = 0; what < 8 && calls < CALLS; what++) {
            due("account(" + what + ")", x.account(what), model.account(what));
        }
        for (int what = 0; what < 14 && calls < CALLS; what++) {
            due("count(" + what + ")", x.count(what), model.count(what));
        }
        int lot = someLot();
        for (int what = 0; what < 9 && calls < CALLS; what++) {
            due("lot(" + lot + ", " + what + ")", x.lot(lot, what), model.lot(lot, what));
        }
        due("bits(" + lot + ")", x.bits(lot), model.bits(lot));
        for (int what = 0; what < 3 && calls < CALLS; what++) {
            int value = model.grain(lot, pick(3), what);
            due("share(" + lot + ", " + what + ", " + value + ")", x.share(lot, what, value), model.share(lot, what, value));
        }
        int first = pick(2) == 0 ? 0 : Math.max(0, model.lot(lot, 1) - 6);
        for (int grain = first; grain < first + 6 && calls < CALLS; grain++) {
            for (int what = 0; what < 4 && calls < CALLS; what++) {
                due("grain(" + lot + ", " + grain + ", " + what + ")", x.grain(lot, grain, what), model.grain(lot, grain, what));
            }
        }
        for (int what = 0; what < 5 && calls < CALLS; what++) {
            due("panel(" + lot + ", " + what + ")", x.panel(lot, what), model.panel(lot, what));
        }
        for (int place = 0; place < 3 && calls < CALLS; place++) {
            due("ranked(" + place + ")", x.ranked(place), model.ranked(place));
        }
    }
}
