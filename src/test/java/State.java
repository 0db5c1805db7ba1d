/** All that can be seen of a small cellar, as one text: some 30 calls, and 20 more for each lot. */
final class State {
    private State() {
    }

    static String of(VineyardBlends x) {
        StringBuilder seen = new StringBuilder("counts");
        for (int what = 0; what <= 13; what++) {
            add(seen, x.count(what));
        }
        seen.append(" accounts");
        for (int what = 0; what <= 7; what++) {
            add(seen, x.account(what));
        }
        rules(x, seen);
        int next = x.count(6);
        for (int lot = 0; lot < next; lot++) {
            lot(x, lot, seen);
        }
        seen.append(" ranking");
        for (int place = 0; place < x.count(11); place++) {
            add(seen, x.ranked(place));
        }
        seen.append(" fault");
        add(seen, x.fault(0));
        add(seen, x.fault(1));
        return seen.toString();
    }

    /** The state, and the one that undo brings back. */
    static String andBefore(VineyardBlends x) {
        String now = of(x);
        return now + " | undo " + x.undo() + " " + of(x);
    }

    private static void rules(VineyardBlends x, StringBuilder seen) {
        seen.append(" rules");
        int rules = x.count(4);
        for (int rule = 0; rule < rules; rule++) {
            for (int what = 0; what <= 2; what++) {
                add(seen, x.rule(rule, what));
            }
        }
    }

    private static void lot(VineyardBlends x, int lot, StringBuilder seen) {
        int grains = x.lot(lot, 1);
        if (grains < 0) {
            return;
        }
        seen.append(" lot ").append(lot);
        for (int what = 0; what <= 8; what++) {
            add(seen, x.lot(lot, what));
        }
        for (int grain = 0; grain < grains; grain++) {
            for (int what = 0; what <= 3; what++) {
                add(seen, x.grain(lot, grain, what));
            }
        }
        for (int what = 0; what <= 3; what++) {
            add(seen, x.panel(lot, what));
        }
    }

    private static void add(StringBuilder seen, int answer) {
        seen.append(' ').append(answer);
    }
}
