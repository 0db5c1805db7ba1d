import java.util.ArrayDeque;
import java.util.ArrayList;
import java.util.Arrays;
import java.util.Comparator;
import java.util.List;
import java.util.TreeMap;
import java.util.regex.Matcher;
import java.util.regex.Pattern;

/**
 * The document once more, in other means (maps, sorting, regular expressions, a new state for each change),
 * so that a fault of the class is unlikely to stand here too.
 */
final class Model {
    private static final int INVALID = -1;
    private static final int NOT_POSSIBLE = -2;
    private static final int LIMIT = -3;
    private static final int NOT_FOUND = -4;

    private record Grain(int origin, int year, int variety) implements Comparable<Grain> {
        private static final Comparator<Grain> ORDER =
                Comparator.comparingInt(Grain::origin).thenComparingInt(Grain::year).thenComparingInt(Grain::variety);

        @Override
        public int compareTo(Grain other) {
            return ORDER.compare(this, other);
        }

        int sign(int what) {
            return what == 0 ? origin : what == 1 ? year : variety;
        }
    }

    private record Rule(int kind, int subject, int bound) {
    }

    private static final class Wine {
        int[] measures = new int[3];
        int kind;
        TreeMap<Grain, Integer> grains = new TreeMap<>();
        TreeMap<Integer, Integer> scores = new TreeMap<>();

        Wine copy() {
            Wine copy = new Wine();
            copy.measures = measures.clone();
            copy.kind = kind;
            copy.grains.putAll(grains);
            copy.scores.putAll(scores);
            return copy;
        }

        int litres() {
            return grains.values().stream().mapToInt(Integer::intValue).sum();
        }

        TreeMap<Grain, Integer> take(int x) {
            List<Grain> order = new ArrayList<>(grains.keySet());
            int[] parts = shareOut(x, order.stream().mapToInt(grains::get).toArray());
            TreeMap<Grain, Integer> taken = new TreeMap<>();
            for (int i = 0; i < parts.length; i++) {
                if (parts[i] > 0) {
                    int left = grains.get(order.get(i)) - parts[i];
                    taken.put(order.get(i), parts[i]);
                    if (left == 0) {
                        grains.remove(order.get(i));
                    } else {
                        grains.put(order.get(i), left);
                    }
                }
            }
            return taken;
        }

        int share(int what, int value) {
            int with = 0;
            for (Grain grain : grains.keySet()) {
                with += grain.sign(what) == value ? grains.get(grain) : 0;
            }
            return 100 * with / litres();
        }

        boolean breaks(Rule rule) {
            switch (rule.kind) {
                case 0:
                    return share(0, rule.subject) < rule.bound;
                case 1:
                    return share(0, rule.subject) > rule.bound;
                case 2:
                    return share(1, rule.subject) < rule.bound;
                case 3:
                    return share(2, rule.subject) < rule.bound;
                case 4:
                    return measures[0] < rule.bound;
                case 5:
                    return measures[0] > rule.bound;
                case 6:
                    return measures[1] < rule.bound;
                case 7:
                    return measures[1] > rule.bound;
                default:
                    return measures[2] > rule.bound;
            }
        }

        int middle() {
            List<Integer> sorted = new ArrayList<>(scores.values());
            sorted.sort(null);
            return sorted.get((sorted.size() - 1) / 2);
        }

        boolean isOutlier(int taster, int span) {
            return Math.abs(scores.get(taster) - middle()) > span;
        }

        float mark(int span) {
            int sum = 0;
            int many = 0;
            for (int taster : scores.keySet()) {
                if (!isOutlier(taster, span)) {
                    sum += scores.get(taster);
                    many++;
                }
            }
            return (float) sum / (float) many;
        }
    }

    private static final class State {
        TreeMap<Integer, Wine> wines = new TreeMap<>();
        TreeMap<Integer, Integer> recipe = new TreeMap<>();
        List<Rule> rules = new ArrayList<>();
        int[] settings = {10, 40, 5, 0};
        int[] accounts = new int[8];
        int next = 0;

        State copy() {
            State copy = new State();
            wines.forEach((number, wine) -> copy.wines.put(number, wine.copy()));
            copy.recipe.putAll(recipe);
            copy.rules.addAll(rules);
            copy.settings = settings.clone();
            copy.accounts = accounts.clone();
            copy.next = next;
            return copy;
        }

        int inKind(int kind) {
            return (int) wines.values().stream().filter(wine -> wine.kind == kind).count();
        }

        int grains() {
            return wines.values().stream().mapToInt(wine -> wine.grains.size()).sum();
        }

        void clean() {
            wines.values().removeIf(wine -> wine.grains.isEmpty());
            recipe.keySet().retainAll(wines.keySet());
        }

        int broken(Wine wine) {
            int mask = 0;
            for (int i = 0; i < rules.size(); i++) {
                mask += wine.breaks(rules.get(i)) ? 1 << i : 0;
            }
            return mask;
        }
    }

    private State now = new State();
    private final ArrayDeque<State> history = new ArrayDeque<>();
    private String text = "";

    static int[] shareOut(int x, int[] weights) {
        long sum = Arrays.stream(weights).sum();
        int[] parts = new int[weights.length];
        Integer[] order = new Integer[weights.length];
        int left = x;
        for (int i = 0; i < weights.length; i++) {
            parts[i] = (int) ((long) x * weights[i] / sum);
            left -= parts[i];
            order[i] = i;
        }
        Arrays.sort(order, Comparator.comparingLong(i -> -((long) x * weights[i] % sum)));
        for (int i = 0; i < left; i++) {
            parts[order[i]]++;
        }
        return parts;
    }

    private void record() {
        history.addLast(now.copy());
        if (history.size() > 4) {
            history.removeFirst();
        }
    }

    private static boolean out(int value, int low, int high) {
        return value < low || value > high;
    }

    int bring(int litres, int origin, int year, int variety, int alcohol, int acid) {
        if (out(litres, 1, 10000) || out(origin, 0, 7) || out(year, 2000, 2063) || out(variety, 0, 9)
                || out(alcohol, 0, 2000) || out(acid, 0, 200)) {
            return INVALID;
        }
        if (now.wines.size() == 12 || now.inKind(0) == 6 || now.grains() == 200) {
            return LIMIT;
        }
        record();
        Wine wine = new Wine();
        wine.measures = new int[] {alcohol, acid, 0};
        wine.grains.put(new Grain(origin, year, variety), litres);
        now.wines.put(now.next, wine);
        now.accounts[0] += litres;
        return now.next++;
    }

    int sweeten(int lot, int sugar) {
        if (lot < 0 || out(sugar, 0, 500)) {
            return INVALID;
        }
        if (!now.wines.containsKey(lot)) {
            return NOT_FOUND;
        }
        record();
        int before = now.wines.get(lot).measures[2];
        now.wines.get(lot).measures[2] = sugar;
        return before;
    }

    int move(int lot, int kind) {
        if (lot < 0 || out(kind, 0, 1)) {
            return INVALID;
        }
        if (!now.wines.containsKey(lot)) {
            return NOT_FOUND;
        }
        if (now.wines.get(lot).kind == kind) {
            return NOT_POSSIBLE;
        }
        if (now.inKind(kind) == 6) {
            return LIMIT;
        }
        record();
        now.wines.get(lot).kind = kind;
        return now.inKind(kind);
    }

    int lot(int lot, int what) {
        if (lot < 0 || out(what, 0, 8)) {
            return INVALID;
        }
        Wine wine = now.wines.get(lot);
        if (wine == null) {
            return NOT_FOUND;
        }
        int[] all = {wine.litres(), wine.grains.size(), wine.measures[0], wine.measures[1], wine.measures[2], wine.kind,
            now.broken(wine), wine.scores.size(), now.recipe.getOrDefault(lot, 0)};
        return all[what];
    }

    int grain(int lot, int grain, int what) {
        if (lot < 0 || grain < 0 || out(what, 0, 3)) {
            return INVALID;
        }
        if (!now.wines.containsKey(lot) || now.wines.get(lot).grains.size() <= grain) {
            return NOT_FOUND;
        }
        Grain found = new ArrayList<>(now.wines.get(lot).grains.keySet()).get(grain);
        return what == 3 ? now.wines.get(lot).grains.get(found) : found.sign(what);
    }

    int share(int lot, int what, int value) {
        if (lot < 0 || out(what, 0, 2) || what == 0 && out(value, 0, 7) || what == 1 && out(value, 2000, 2063)
                || what == 2 && out(value, 0, 9)) {
            return INVALID;
        }
        return now.wines.containsKey(lot) ? now.wines.get(lot).share(what, value) : NOT_FOUND;
    }

    long bits(int lot) {
        if (lot < 0) {
            return INVALID;
        }
        if (!now.wines.containsKey(lot)) {
            return NOT_FOUND;
        }
        boolean[] bits = new boolean[64];
        for (Grain grain : now.wines.get(lot).grains.keySet()) {
            if (grain.year >= 2008) {
                bits[grain.year - 2008] = true;
            }
            bits[56 + grain.origin] = true;
        }
        long all = 0;
        for (int i = 63; i >= 0; i--) {
            all = all * 2 + (bits[i] ? 1 : 0);
        }
        return all;
    }

    int recipe(int lot, int parts) {
        if (lot < 0 || out(parts, 0, 20)) {
            return INVALID;
        }
        if (!now.wines.containsKey(lot)) {
            return NOT_FOUND;
        }
        TreeMap<Integer, Integer> then = new TreeMap<>(now.recipe);
        then.put(lot, parts);
        then.values().removeIf(p -> p == 0);
        if (then.size() == 7) {
            return LIMIT;
        }
        record();
        now.recipe = then;
        return then.size();
    }

    private record Blend(State rest, Wine wine, int lost, int empty) {
    }

    private boolean enough(int litres) {
        List<Integer> lots = new ArrayList<>(now.recipe.keySet());
        int[] taken = shareOut(litres, lots.stream().mapToInt(now.recipe::get).toArray());
        for (int i = 0; i < taken.length; i++) {
            if (taken[i] > now.wines.get(lots.get(i)).litres()) {
                return false;
            }
        }
        return true;
    }

    private Blend tryBlend(int litres, int kind) {
        if (now.recipe.isEmpty() || !enough(litres)) {
            return null;
        }
        State rest = now.copy();
        Wine blend = new Wine();
        blend.kind = kind;
        List<Integer> lots = new ArrayList<>(now.recipe.keySet());
        int[] taken = shareOut(litres, lots.stream().mapToInt(now.recipe::get).toArray());
        long[] sums = new long[3];
        for (int i = 0; i < taken.length; i++) {
            Wine from = rest.wines.get(lots.get(i));
            from.take(taken[i]).forEach((grain, part) -> blend.grains.merge(grain, part, Integer::sum));
            for (int m = 0; m < 3; m++) {
                sums[m] += (long) taken[i] * from.measures[m];
            }
        }
        for (int m = 0; m < 3; m++) {
            blend.measures[m] = (int) (sums[m] / litres);
        }
        int lost = litres * now.settings[0] / 1000;
        blend.take(lost);
        rest.clean();
        return new Blend(rest, blend, lost, now.recipe.size() - rest.recipe.size());
    }

    int blend(int litres, int kind) {
        if (out(litres, 1, 10000) || out(kind, 0, 1)) {
            return INVALID;
        }
        Blend blend = tryBlend(litres, kind);
        if (blend == null || now.broken(blend.wine) != 0) {
            return NOT_POSSIBLE;
        }
        State then = blend.rest;
        then.wines.put(then.next++, blend.wine);
        then.accounts[1] += blend.lost;
        if (then.wines.size() > 12 || then.inKind(kind) > 6 || then.grains() > 200) {
            return LIMIT;
        }
        record();
        now = then;
        return then.next - 1;
    }

    int ifBlend(int litres, int what) {
        if (out(litres, 1, 10000) || out(what, 0, 7)) {
            return INVALID;
        }
        Blend blend = tryBlend(litres, 0);
        if (blend == null) {
            return NOT_POSSIBLE;
        }
        Wine wine = blend.wine;
        int[] all = {wine.litres(), wine.grains.size(), wine.measures[0], wine.measures[1], wine.measures[2],
            now.broken(wine), blend.lost, blend.empty};
        return all[what];
    }

    int mostLitres() {
        if (now.recipe.isEmpty()) {
            return NOT_POSSIBLE;
        }
        int all = now.recipe.keySet().stream().mapToInt(lot -> now.wines.get(lot).litres()).sum();
        for (int litres = Math.min(10000, all); litres > 0; litres--) {
            if (enough(litres)) {
                return litres;
            }
        }
        return NOT_FOUND;
    }

    int partsFor(int first, int second, int what, int aim) {
        if (first < 0 || second < 0 || first == second || out(what, 0, 2) || out(aim, 0, 2000)) {
            return INVALID;
        }
        if (!now.wines.containsKey(first) || !now.wines.containsKey(second)) {
            return NOT_FOUND;
        }
        List<int[]> pairs = new ArrayList<>();
        for (int a = 1; a <= 20; a++) {
            for (int b = 1; b <= 20; b++) {
                pairs.add(new int[] {a, b});
            }
        }
        int one = now.wines.get(first).measures[what];
        int two = now.wines.get(second).measures[what];
        pairs.sort((p, q) -> {
            long off = Math.abs((long) p[0] * one + p[1] * two - (long) aim * (p[0] + p[1])) * (q[0] + q[1]);
            long other = Math.abs((long) q[0] * one + q[1] * two - (long) aim * (q[0] + q[1])) * (p[0] + p[1]);
            return off != other ? Long.compare(off, other)
                    : p[0] + p[1] != q[0] + q[1] ? Integer.compare(p[0] + p[1], q[0] + q[1]) : Integer.compare(p[0], q[0]);
        });
        return 100 * pairs.get(0)[0] + pairs.get(0)[1];
    }

    int score(int lot, int taster, int value) {
        if (lot < 0 || out(taster, 0, 7) || out(value, -1, 200)) {
            return INVALID;
        }
        if (!now.wines.containsKey(lot)) {
            return NOT_FOUND;
        }
        record();
        if (value == -1) {
            now.wines.get(lot).scores.remove(taster);
        } else {
            now.wines.get(lot).scores.put(taster, value);
        }
        return now.wines.get(lot).scores.size();
    }

    int panel(int lot, int what) {
        if (lot < 0 || out(what, 0, 4)) {
            return INVALID;
        }
        Wine wine = now.wines.get(lot);
        if (wine == null || wine.scores.isEmpty()) {
            return NOT_FOUND;
        }
        int span = now.settings[1];
        int mask = 0;
        int kept = 0;
        for (int taster : wine.scores.keySet()) {
            if (wine.isOutlier(taster, span)) {
                mask += 1 << taster;
            } else {
                kept++;
            }
        }
        int[] all = {wine.middle(), kept, mask, Float.floatToIntBits(wine.mark(span)), (int) wine.mark(span)};
        return all[what];
    }

    int ranked(int place) {
        if (place < 0) {
            return INVALID;
        }
        List<Integer> lots = new ArrayList<>(now.wines.keySet());
        lots.removeIf(lot -> now.wines.get(lot).scores.isEmpty());
        lots.sort((a, b) -> Float.compare(now.wines.get(b).mark(now.settings[1]), now.wines.get(a).mark(now.settings[1])));
        return place < lots.size() ? lots.get(place) : NOT_FOUND;
    }

    int months(int months) {
        if (out(months, 1, 60)) {
            return INVALID;
        }
        record();
        int before = now.accounts[2];
        for (int i = 0; i < months; i++) {
            for (Wine wine : now.wines.values()) {
                if (wine.kind == 1) {
                    int x = wine.litres() * now.settings[2] / 1000;
                    wine.take(x);
                    now.accounts[2] += x;
                }
            }
            now.clean();
        }
        return now.accounts[2] - before;
    }

    int bottle(int lot, int litres, int size) {
        if (lot < 0 || out(litres, 1, 10000) || out(size, 10, 300)) {
            return INVALID;
        }
        Wine wine = now.wines.get(lot);
        if (wine == null) {
            return NOT_FOUND;
        }
        if (wine.litres() < litres || now.broken(wine) != 0) {
            return NOT_POSSIBLE;
        }
        record();
        now.wines.get(lot).take(litres);
        now.clean();
        int whole = 0;
        int left = litres * 100;
        for (int number = 1; left >= size; number++) {
            left -= size;
            if (now.settings[3] > 0 && number % now.settings[3] == 0) {
                now.accounts[6]++;
            } else {
                whole++;
            }
        }
        now.accounts[3] += litres;
        now.accounts[5] += whole;
        now.accounts[7] += left;
        return whole;
    }

    int set(int what, int value) {
        if (out(what, 0, 3) || out(value, 0, new int[] {100, 200, 100, 1000}[what])) {
            return INVALID;
        }
        record();
        int before = now.settings[what];
        now.settings[what] = value;
        return before;
    }

    int account(int what) {
        if (out(what, 0, 7)) {
            return INVALID;
        }
        int left = now.wines.values().stream().mapToInt(Wine::litres).sum();
        if (now.accounts[0] != now.accounts[1] + now.accounts[2] + now.accounts[3] + left) {
            throw new IllegalStateException("the litres of the model do not add up");
        }
        return what == 4 ? left : now.accounts[what];
    }

    int count(int what) {
        if (out(what, 0, 13)) {
            return INVALID;
        }
        int scored = (int) now.wines.values().stream().filter(wine -> !wine.scores.isEmpty()).count();
        int[] all = {now.wines.size(), now.inKind(0), now.inKind(1), now.grains(), now.rules.size(), now.recipe.size(),
            now.next, now.settings[0], now.settings[1], now.settings[2], now.settings[3], scored, history.size(), text.length()};
        return all[what];
    }

    int undo() {
        if (history.isEmpty()) {
            return NOT_POSSIBLE;
        }
        now = history.removeLast();
        return history.size();
    }

    int rule(int rule, int what) {
        if (rule < 0 || out(what, 0, 2)) {
            return INVALID;
        }
        if (rule >= now.rules.size() || what == 1 && now.rules.get(rule).kind > 3) {
            return NOT_FOUND;
        }
        Rule found = now.rules.get(rule);
        return what == 0 ? found.kind : what == 1 ? found.subject : found.bound;
    }

    int dropRule(int rule) {
        if (rule < 0) {
            return INVALID;
        }
        if (rule >= now.rules.size()) {
            return NOT_FOUND;
        }
        record();
        now.rules.remove(rule);
        return now.rules.size();
    }

    int type(int character) {
        if (out(character, 32, 126)) {
            return INVALID;
        }
        if (text.length() == 100) {
            return LIMIT;
        }
        text += (char) character;
        return text.length();
    }

    int clearText() {
        int before = text.length();
        text = "";
        return before;
    }

    int fault(int what) {
        if (out(what, 0, 1)) {
            return INVALID;
        }
        int[] fault = parse(new ArrayList<>(now.rules));
        return fault == null ? NOT_FOUND : fault[what];
    }

    int read() {
        List<Rule> rules = new ArrayList<>(now.rules);
        if (parse(rules) != null) {
            return NOT_POSSIBLE;
        }
        record();
        int many = rules.size() - now.rules.size();
        now.rules = rules;
        return many;
    }

    private static final Pattern RULE = Pattern.compile(
            "(?:(origin) (\\d{1,4}) (least|most)|(year|variety) (\\d{1,4}) (least)|(alcohol|acid) (least|most)|(sugar) (most))"
            + " (\\d{1,4});");
    private static final List<String> TOPICS = List.of("origin", "year", "variety", "alcohol", "acid", "sugar");
    private static final int[] LOW = {0, 2000, 0};
    private static final int[] HIGH = {7, 2063, 9, 2000, 200, 500};

    /** Adds the rules of the text to the list; answers the place and the reason of the fault, or null. */
    private int[] parse(List<Rule> rules) {
        Matcher matcher = RULE.matcher(text);
        int start = 0;
        while (start < text.length()) {
            matcher.region(start, text.length());
            if (!matcher.lookingAt()) {
                return new int[] {start, reason(text.substring(start))};
            }
            String topic = null;
            int subject = 0;
            String side = null;
            for (int group = 1; group <= 10; group++) {
                String found = matcher.group(group);
                if (found == null) {
                    continue;
                }
                if (TOPICS.contains(found)) {
                    topic = found;
                } else if (Character.isDigit(found.charAt(0))) {
                    subject = Integer.parseInt(found);
                } else {
                    side = found;
                }
            }
            int t = TOPICS.indexOf(topic);
            int bound = Integer.parseInt(matcher.group(11));
            if (t < 3 && out(subject, LOW[t], HIGH[t]) || bound > (t < 3 ? 100 : HIGH[t])) {
                return new int[] {start, 3};
            }
            boolean least = side.equals("least");
            int kind = t == 0 ? (least ? 0 : 1) : t <= 2 ? t + 1 : t == 3 ? (least ? 4 : 5) : t == 4 ? (least ? 6 : 7) : 8;
            Rule rule = new Rule(kind, subject, bound);
            if (rules.contains(rule)) {
                return new int[] {start, 5};
            }
            if (rules.size() == 8) {
                return new int[] {start, 6};
            }
            rules.add(rule);
            start = matcher.end();
        }
        return null;
    }

    /** Cuts the pieces of the rule off, each by its own pattern, until one is missing. */
    private static int reason(String rest) {
        String topic = head(rest, "[a-z]*");
        if (!TOPICS.contains(topic)) {
            return 1;
        }
        rest = rest.substring(topic.length());
        if (TOPICS.indexOf(topic) < 3) {
            String subject = head(rest, " \\d{1,4}");
            if (subject == null) {
                return 2;
            }
            rest = rest.substring(subject.length());
        }
        if (!rest.startsWith(" ")) {
            return 2;
        }
        String side = head(rest.substring(1), "[a-z]*");
        List<String> sides = topic.equals("sugar") ? List.of("most")
                : topic.equals("year") || topic.equals("variety") ? List.of("least") : List.of("least", "most");
        if (!sides.contains(side)) {
            return 1;
        }
        String bound = head(rest.substring(1 + side.length()), " \\d{1,4}");
        return bound == null ? 2 : 4;
    }

    private static String head(String text, String pattern) {
        Matcher matcher = Pattern.compile(pattern).matcher(text);
        return matcher.lookingAt() ? matcher.group() : null;
    }
}
