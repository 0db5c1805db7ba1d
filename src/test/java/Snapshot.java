import java.util.LinkedHashMap;
import java.util.Map;

/** All that can be seen of a small cellar, by names: some 30 calls, and 20 more for each lot. */
final class Snapshot {
    private final Map<String, Long> seen = new LinkedHashMap<>();

    Snapshot(VineyardBlends x) {
        for (int what = 0; what <= 13; what++) {
            seen.put("count(" + what + ")", (long) x.count(what));
        }
        for (int what = 0; what <= 7; what++) {
            seen.put("account(" + what + ")", (long) x.account(what));
        }
        for (int rule = 0; rule < x.count(4); rule++) {
            for (int what = 0; what <= 2; what++) {
                seen.put("rule(" + rule + ", " + what + ")", (long) x.rule(rule, what));
            }
        }
        for (int lot = 0; lot < x.count(6); lot++) {
            lot(x, lot);
        }
        for (int place = 0; place < x.count(11); place++) {
            seen.put("ranked(" + place + ")", (long) x.ranked(place));
        }
        seen.put("fault(0)", (long) x.fault(0));
        seen.put("fault(1)", (long) x.fault(1));
    }

    private void lot(VineyardBlends x, int lot) {
        int grains = x.lot(lot, 1);
        if (grains < 0) {
            return;
        }
        for (int what = 0; what <= 8; what++) {
            seen.put("lot(" + lot + ", " + what + ")", (long) x.lot(lot, what));
        }
        for (int grain = 0; grain < grains; grain++) {
            for (int what = 0; what <= 3; what++) {
                seen.put("grain(" + lot + ", " + grain + ", " + what + ")", (long) x.grain(lot, grain, what));
            }
        }
        for (int what = 0; what <= 3; what++) {
            seen.put("panel(" + lot + ", " + what + ")", (long) x.panel(lot, what));
        }
        seen.put("bits(" + lot + ")", x.bits(lot));
    }

    /** All of it as one text. */
    static String of(VineyardBlends x) {
        return new Snapshot(x).seen.toString();
    }

    /** The state, and the one that undo brings back. */
    static String andBefore(VineyardBlends x) {
        String now = of(x);
        return now + " | undo " + x.undo() + " " + of(x);
    }

    /** What is another one in the later snapshot, as "call=answer", in the order of the calls; "call gone" if it is not there. */
    String changesTo(Snapshot later) {
        StringBuilder changes = new StringBuilder();
        for (Map.Entry<String, Long> each : seen.entrySet()) {
            Long then = later.seen.get(each.getKey());
            if (then == null) {
                changes.append(each.getKey()).append(" gone; ");
            } else if (!then.equals(each.getValue())) {
                changes.append(each.getKey()).append('=').append(then).append("; ");
            }
        }
        for (Map.Entry<String, Long> each : later.seen.entrySet()) {
            if (!seen.containsKey(each.getKey())) {
                changes.append(each.getKey()).append('=').append(each.getValue()).append("; ");
            }
        }
        return changes.toString().trim();
    }
}
