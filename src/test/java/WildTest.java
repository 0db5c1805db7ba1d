/** No call throws, whatever its arguments are, and not behind the 512th call either; litres always add up. */
public final class WildTest {
    private static final int[] WILD = {
        Integer.MIN_VALUE, Integer.MIN_VALUE + 1, -65536, -9, -1, 0, 1, 2, 3, 5, 7, 8, 9, 10, 12, 20, 32, 59, 97, 100,
        200, 300, 500, 1000, 2000, 2007, 2063, 10000, 10001, 1 << 30, Integer.MAX_VALUE - 1, Integer.MAX_VALUE
    };

    private long seed = 99;

    public static void main(String[] args) {
        Due due = new Due("wild arguments");
        WildTest test = new WildTest();
        for (int run = 0; run < 50; run++) {
            VineyardBlends x = new VineyardBlends();
            test.calls(x, 200);
            due.is("litres of run " + run, x.account(0), x.account(1) + x.account(2) + x.account(3) + x.account(4));
            test.calls(x, 1500);
        }
        due.end();
    }

    private void calls(VineyardBlends x, int many) {
        for (int call = 0; call < many; call++) {
            call(x);
        }
    }

    private int pick(int many) {
        seed = seed * 6364136223846793005L + 1442695040888963407L;
        return (int) ((seed >>> 33) % many);
    }

    /** Small numbers often, so that some calls get through. */
    private int any() {
        return pick(3) == 0 ? WILD[pick(WILD.length)] : pick(15);
    }

    private void call(VineyardBlends x) {
        switch (pick(32)) {
            case 0: x.bring(any(), any(), any(), any(), any(), any()); break;
            case 1: x.sweeten(any(), any()); break;
            case 2: x.move(any(), any()); break;
            case 3: x.lot(any(), any()); break;
            case 4: x.grain(any(), any(), any()); break;
            case 5: x.share(any(), any(), any()); break;
            case 6: x.bits(any()); break;
            case 7: case 28: x.recipe(any(), any()); break;
            case 8: x.blend(any(), any()); break;
            case 9: x.ifBlend(any(), any()); break;
            case 10: x.mostLitres(); break;
            case 11: x.partsFor(any(), any(), any(), any()); break;
            case 12: x.score(any(), any(), any()); break;
            case 13: x.panel(any(), any()); break;
            case 14: x.ranked(any()); break;
            case 15: x.months(any()); break;
            case 16: x.bottle(any(), any(), any()); break;
            case 17: x.set(any(), any()); break;
            case 18: x.account(any()); break;
            case 19: x.count(any()); break;
            case 20: x.undo(); break;
            case 21: x.rule(any(), any()); break;
            case 22: x.dropRule(any()); break;
            case 23: x.type(any()); break;
            case 24: if (pick(9) == 0) { x.clearText(); } break;
            case 25: x.fault(any()); break;
            case 26: x.read(); break;
            case 27: Cellars.rules(x, "alcohol least " + pick(9) + ";"); break;
            default: x.bring(1 + pick(500), pick(8), 2000 + pick(64), pick(10), pick(2000), pick(200));
        }
    }
}
