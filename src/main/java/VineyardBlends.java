/**
 * A vineyard cellar: lots of wine made of grains, blends by whole parts, panels of tasters, oak that
 * evaporates, bottling runs, and rules that are read from a text.
 *
 * <p>No call makes an object: all rows are made with the cellar and used again.
 */
public final class VineyardBlends {
    public static final int INVALID_ARGUMENT = -1;
    public static final int NOT_POSSIBLE = -2;
    public static final int LIMIT_REACHED = -3;
    public static final int NOT_FOUND = -4;

    private static final int MOST_LOTS = 12;
    private static final int MOST_OF_A_KIND = 6;
    private static final int MOST_GRAINS = 200;
    private static final int MOST_LITRES = 10000;
    private static final int MOST_IN_RECIPE = 6;
    private static final int MOST_PARTS = 20;
    private static final int MOST_RULES = 8;
    private static final int MOST_STATES = 4;
    private static final int MOST_CHARACTERS = 100;
    private static final int MOST_MONTHS = 60;
    private static final int MOST_SCORE = 200;
    private static final int TASTERS = 8;

    private static final int STEEL = 0;
    private static final int OAK = 1;

    private static final int LOSS = 0;
    private static final int SPAN = 1;
    private static final int EVAPORATION = 2;
    private static final int REJECT = 3;
    private static final int SETTINGS = 4;

    private static final int BROUGHT = 0;
    private static final int LOST = 1;
    private static final int EVAPORATED = 2;
    private static final int BOTTLED = 3;
    private static final int LEFT = 4;
    private static final int WHOLE_BOTTLES = 5;
    private static final int BROKEN_BOTTLES = 6;
    private static final int LEFT_OVER = 7;
    private static final int ACCOUNTS = 8;

    private static final int NO_SCORE = -1;
    private static final int NO_KIND = -1;

    private static final int NO_FAULT = 0;
    private static final int WRONG_WORD = 1;
    private static final int BLANK_OR_NUMBER_MISSING = 2;
    private static final int OUT_OF_RANGE = 3;
    private static final int SEMICOLON_MISSING = 4;
    private static final int THERE_ALREADY = 5;
    private static final int TOO_MANY = 6;

    private final Cellar now;
    private final History history;
    private final Sharing sharing;
    private final Trial trial;
    private final Panel tasters;
    private final Script script;
    private final Lot arriving;

    public VineyardBlends() {
        now = new Cellar();
        history = new History();
        sharing = new Sharing();
        trial = new Trial(sharing);
        tasters = new Panel();
        script = new Script();
        arriving = new Lot(new Row(1), new Row(1));
    }

    // ---- lots

    public int bring(int litres, int origin, int year, int variety, int alcohol, int acid) {
        boolean wineIsRight = within(litres, 1, MOST_LITRES) && Topic.ALCOHOL.holds(alcohol) && Topic.ACID.holds(acid);
        boolean grainIsRight = Topic.ORIGIN.holds(origin) && Topic.YEAR.holds(year) && Topic.VARIETY.holds(variety);
        if (!wineIsRight || !grainIsRight) {
            return INVALID_ARGUMENT;
        }
        if (now.size >= MOST_LOTS || now.lotsOfKind(STEEL) >= MOST_OF_A_KIND || now.allGrains() >= MOST_GRAINS) {
            return LIMIT_REACHED;
        }
        history.record(now);
        arriving.clear();
        arriving.pour(Topic.keyOf(origin, year, variety), litres);
        arriving.alcohol = alcohol;
        arriving.acid = acid;
        now.accounts.add(BROUGHT, litres);
        return now.admit(arriving, STEEL);
    }

    public int sweeten(int lot, int sugar) {
        if (lot < 0 || !Topic.SUGAR.holds(sugar)) {
            return INVALID_ARGUMENT;
        }
        Lot wine = now.find(lot);
        if (wine == null) {
            return NOT_FOUND;
        }
        history.record(now);
        int before = wine.sugar;
        wine.sugar = sugar;
        return before;
    }

    public int move(int lot, int kind) {
        if (lot < 0 || !within(kind, STEEL, OAK)) {
            return INVALID_ARGUMENT;
        }
        Lot wine = now.find(lot);
        if (wine == null) {
            return NOT_FOUND;
        }
        if (wine.kind == kind) {
            return NOT_POSSIBLE;
        }
        if (now.lotsOfKind(kind) >= MOST_OF_A_KIND) {
            return LIMIT_REACHED;
        }
        history.record(now);
        wine.kind = kind;
        return now.lotsOfKind(kind);
    }

    public int lot(int lot, int what) {
        if (lot < 0 || !within(what, 0, 8)) {
            return INVALID_ARGUMENT;
        }
        Lot wine = now.find(lot);
        if (wine == null) {
            return NOT_FOUND;
        }
        switch (what) {
            case 0:
                return wine.litres;
            case 1:
                return wine.grains;
            case 5:
                return wine.kind;
            case 6:
                return now.rules.brokenBy(wine);
            case 7:
                return wine.scoresGiven();
            case 8:
                return wine.parts;
            default:
                return wine.measure(measureTopic(what - 2));
        }
    }

    public int grain(int lot, int grain, int what) {
        if (lot < 0 || grain < 0 || !within(what, 0, 3)) {
            return INVALID_ARGUMENT;
        }
        Lot wine = now.find(lot);
        if (wine == null || grain >= wine.grains) {
            return NOT_FOUND;
        }
        return what == 3 ? wine.amount(grain) : Topic.at(what).ofGrain(wine.key(grain));
    }

    public int share(int lot, int what, int value) {
        if (lot < 0 || !within(what, 0, 2) || !Topic.at(what).holds(value)) {
            return INVALID_ARGUMENT;
        }
        Lot wine = now.find(lot);
        return wine == null ? NOT_FOUND : wine.shareOf(Topic.at(what), value);
    }

    public long bits(int lot) {
        if (lot < 0) {
            return INVALID_ARGUMENT;
        }
        Lot wine = now.find(lot);
        return wine == null ? NOT_FOUND : wine.yearsAndOrigins();
    }

    // ---- blends

    public int recipe(int lot, int parts) {
        if (lot < 0 || !within(parts, 0, MOST_PARTS)) {
            return INVALID_ARGUMENT;
        }
        Lot wine = now.find(lot);
        if (wine == null) {
            return NOT_FOUND;
        }
        if (parts > 0 && wine.parts == 0 && now.lotsInRecipe() >= MOST_IN_RECIPE) {
            return LIMIT_REACHED;
        }
        history.record(now);
        wine.parts = parts;
        return now.lotsInRecipe();
    }

    public int blend(int litres, int kind) {
        if (!within(litres, 1, MOST_LITRES) || !within(kind, STEEL, OAK)) {
            return INVALID_ARGUMENT;
        }
        if (!trial.make(now, litres) || now.rules.brokenBy(trial.mix) != 0) {
            return NOT_POSSIBLE;
        }
        if (!trial.fits(kind)) {
            return LIMIT_REACHED;
        }
        history.record(now);
        now.copy(trial.rest);
        now.accounts.add(LOST, trial.lost);
        return now.admit(trial.mix, kind);
    }

    public int ifBlend(int litres, int what) {
        if (!within(litres, 1, MOST_LITRES) || !within(what, 0, 7)) {
            return INVALID_ARGUMENT;
        }
        if (!trial.make(now, litres)) {
            return NOT_POSSIBLE;
        }
        switch (what) {
            case 0:
                return trial.mix.litres;
            case 1:
                return trial.mix.grains;
            case 5:
                return now.rules.brokenBy(trial.mix);
            case 6:
                return trial.lost;
            case 7:
                return now.size - trial.rest.size;
            default:
                return trial.mix.measure(measureTopic(what - 2));
        }
    }

    public int mostLitres() {
        return now.lotsInRecipe() == 0 ? NOT_POSSIBLE : trial.greatest(now);
    }

    public int partsFor(int first, int second, int what, int aim) {
        if (first < 0 || second < 0 || first == second || !within(what, 0, 2) || !within(aim, 0, 2000)) {
            return INVALID_ARGUMENT;
        }
        Lot one = now.find(first);
        Lot other = now.find(second);
        if (one == null || other == null) {
            return NOT_FOUND;
        }
        Topic topic = measureTopic(what);
        return nearestParts(one.measure(topic) - aim, other.measure(topic) - aim);
    }

    // ---- panel

    public int score(int lot, int taster, int value) {
        if (lot < 0 || !within(taster, 0, TASTERS - 1) || !within(value, NO_SCORE, MOST_SCORE)) {
            return INVALID_ARGUMENT;
        }
        Lot wine = now.find(lot);
        if (wine == null) {
            return NOT_FOUND;
        }
        history.record(now);
        wine.scores.put(taster, value);
        return wine.scoresGiven();
    }

    public int panel(int lot, int what) {
        if (lot < 0 || !within(what, 0, 4)) {
            return INVALID_ARGUMENT;
        }
        Lot wine = now.find(lot);
        if (wine == null || !tasters.judge(wine, now.settings.get(SPAN))) {
            return NOT_FOUND;
        }
        switch (what) {
            case 0:
                return tasters.middle;
            case 1:
                return tasters.kept;
            case 2:
                return tasters.outliers;
            case 3:
                return tasters.markAsBits();
            default:
                return (int) tasters.mark;
        }
    }

    public int ranked(int place) {
        return place < 0 ? INVALID_ARGUMENT : tasters.lotAt(place, now);
    }

    // ---- time, bottles, accounts

    public int months(int months) {
        if (!within(months, 1, MOST_MONTHS)) {
            return INVALID_ARGUMENT;
        }
        history.record(now);
        int evaporated = 0;
        for (int month = 0; month < months; month++) {
            evaporated += now.letMonthGoBy(sharing);
        }
        now.accounts.add(EVAPORATED, evaporated);
        return evaporated;
    }

    public int bottle(int lot, int litres, int size) {
        if (lot < 0 || !within(litres, 1, MOST_LITRES) || !within(size, 10, 300)) {
            return INVALID_ARGUMENT;
        }
        Lot wine = now.find(lot);
        if (wine == null) {
            return NOT_FOUND;
        }
        if (wine.litres < litres || now.rules.brokenBy(wine) != 0) {
            return NOT_POSSIBLE;
        }
        history.record(now);
        wine.take(litres, sharing);
        now.dropEmptyLots();
        return fillBottles(litres, size);
    }

    public int set(int what, int value) {
        if (!within(what, 0, SETTINGS - 1) || !within(value, 0, greatestSetting(what))) {
            return INVALID_ARGUMENT;
        }
        history.record(now);
        int before = now.settings.get(what);
        now.settings.put(what, value);
        return before;
    }

    public int account(int what) {
        if (!within(what, 0, ACCOUNTS - 1)) {
            return INVALID_ARGUMENT;
        }
        return what == LEFT ? now.allLitres() : now.accounts.get(what);
    }

    public int count(int what) {
        if (!within(what, 0, 13)) {
            return INVALID_ARGUMENT;
        }
        switch (what) {
            case 0:
                return now.size;
            case 1:
                return now.lotsOfKind(STEEL);
            case 2:
                return now.lotsOfKind(OAK);
            case 3:
                return now.allGrains();
            case 4:
                return now.rules.size;
            case 5:
                return now.lotsInRecipe();
            case 6:
                return now.nextNumber;
            case 11:
                return now.lotsWithScores();
            case 12:
                return history.size;
            case 13:
                return script.length;
            default:
                return now.settings.get(what - 7);
        }
    }

    public int undo() {
        if (history.size == 0) {
            return NOT_POSSIBLE;
        }
        history.restore(now);
        return history.size;
    }

    // ---- rules and texts

    public int rule(int rule, int what) {
        if (rule < 0 || !within(what, 0, 2)) {
            return INVALID_ARGUMENT;
        }
        if (rule >= now.rules.size) {
            return NOT_FOUND;
        }
        int kind = now.rules.kinds.get(rule);
        if (what == 0) {
            return kind;
        }
        if (what == 2) {
            return now.rules.bounds.get(rule);
        }
        return Topic.ofKind(kind).isOfGrains() ? now.rules.subjects.get(rule) : NOT_FOUND;
    }

    public int dropRule(int rule) {
        if (rule < 0) {
            return INVALID_ARGUMENT;
        }
        if (rule >= now.rules.size) {
            return NOT_FOUND;
        }
        history.record(now);
        now.rules.remove(rule);
        return now.rules.size;
    }

    public int type(int character) {
        if (!within(character, 32, 126)) {
            return INVALID_ARGUMENT;
        }
        if (script.length >= MOST_CHARACTERS) {
            return LIMIT_REACHED;
        }
        script.append(character);
        return script.length;
    }

    public int clearText() {
        int before = script.length;
        script.length = 0;
        return before;
    }

    public int fault(int what) {
        if (!within(what, 0, 1)) {
            return INVALID_ARGUMENT;
        }
        script.check(now.rules);
        if (script.reason == NO_FAULT) {
            return NOT_FOUND;
        }
        return what == 0 ? script.place : script.reason;
    }

    public int read() {
        script.check(now.rules);
        if (script.reason != NO_FAULT) {
            return NOT_POSSIBLE;
        }
        history.record(now);
        now.rules.copy(script.found);
        return script.rulesRead;
    }

    // ---- helpers

    private static boolean within(int value, int low, int high) {
        return value >= low && value <= high;
    }

    /** The calls number the measures from 0: alcohol, acid, sugar. */
    private static Topic measureTopic(int measure) {
        return Topic.at(measure + 3);
    }

    private static int greatestSetting(int what) {
        switch (what) {
            case SPAN:
                return 200;
            case REJECT:
                return 1000;
            default:
                return 100;
        }
    }

    /** Books a run of bottles, and tells how many are full and whole. */
    private int fillBottles(int litres, int size) {
        if (size <= 0) {
            return 0;
        }
        int full = litres * 100 / size;
        int reject = now.settings.get(REJECT);
        int broken = reject > 0 ? full / reject : 0;
        now.accounts.add(BOTTLED, litres);
        now.accounts.add(WHOLE_BOTTLES, full - broken);
        now.accounts.add(BROKEN_BOTTLES, broken);
        now.accounts.add(LEFT_OVER, litres * 100 % size);
        return full - broken;
    }

    /** Both measures are told as seen from the aim, so that the nearest mixture is the one nearest to 0. */
    private static int nearestParts(int one, int other) {
        int best = 0;
        int bestOff = 0;
        int bestSum = 1;
        for (int sum = 2; sum <= 2 * MOST_PARTS; sum++) {
            for (int a = Math.max(1, sum - MOST_PARTS); a <= Math.min(MOST_PARTS, sum - 1); a++) {
                int off = Math.abs(a * one + (sum - a) * other);
                // Compared crosswise to stay exact; a later pair must be nearer, so the least sum and a win.
                if (best == 0 || off * bestSum < bestOff * sum) {
                    best = 100 * a + sum - a;
                    bestOff = off;
                    bestSum = sum;
                }
            }
        }
        return best;
    }

    /** Numbers at places 0, 1, 2, ..: the one class that uses an index on them, so that each index is tested. */
    private static final class Row {
        private final int[] numbers;

        Row(int length) {
            numbers = new int[Math.max(length, 0)];
        }

        int get(int index) {
            return index >= 0 && index < numbers.length ? numbers[index] : 0;
        }

        void put(int index, int number) {
            if (index >= 0 && index < numbers.length) {
                numbers[index] = number;
            }
        }

        void add(int index, int number) {
            put(index, get(index) + number);
        }

        void copy(Row from, int length) {
            int most = Math.min(numbers.length, from.numbers.length);
            System.arraycopy(from.numbers, 0, numbers, 0, Math.max(0, Math.min(length, most)));
        }
    }

    /** What rules speak of: the three signs of a grain, then the three measures of a lot. */
    private enum Topic {
        ORIGIN("origin", 0, 7, 0, 1),
        YEAR("year", 2000, 2063, 2, NO_KIND),
        VARIETY("variety", 0, 9, 3, NO_KIND),
        ALCOHOL("alcohol", 0, 2000, 4, 5),
        ACID("acid", 0, 200, 6, 7),
        SUGAR("sugar", 0, 500, NO_KIND, 8);

        private static final int COUNT = 6;

        private final String word;
        private final int low;
        private final int high;
        private final int leastKind;
        private final int mostKind;

        Topic(String word, int low, int high, int leastKind, int mostKind) {
            this.word = word;
            this.low = low;
            this.high = high;
            this.leastKind = leastKind;
            this.mostKind = mostKind;
        }

        static Topic at(int index) {
            switch (index) {
                case 0:
                    return ORIGIN;
                case 1:
                    return YEAR;
                case 2:
                    return VARIETY;
                case 3:
                    return ALCOHOL;
                case 4:
                    return ACID;
                default:
                    return SUGAR;
            }
        }

        static Topic ofKind(int kind) {
            for (int i = 0; i < COUNT; i++) {
                Topic topic = at(i);
                if (topic.leastKind == kind || topic.mostKind == kind) {
                    return topic;
                }
            }
            return SUGAR;
        }

        /** One number for a grain, so that ascending keys are the order of the grains. */
        static int keyOf(int origin, int year, int variety) {
            return (origin * 64 + (year - 2000)) * 10 + variety;
        }

        int ofGrain(int key) {
            if (this == ORIGIN) {
                return key / 640;
            }
            return this == YEAR ? 2000 + key / 10 % 64 : key % 10;
        }

        boolean isOfGrains() {
            return this == ORIGIN || this == YEAR || this == VARIETY;
        }

        boolean holds(int value) {
            return within(value, low, high);
        }
    }

    /** Shares litres out by weights; what each one gets stands in parts until the next sharing. */
    private static final class Sharing {
        private final Row parts = new Row(MOST_GRAINS);
        private final Row remainders = new Row(MOST_GRAINS);

        /** The weights are so many numbers of the row, from the first one on. */
        void spread(int litres, Row weights, int first, int length) {
            int sum = 0;
            for (int i = 0; i < length; i++) {
                sum += weights.get(first + i);
            }
            int left = litres;
            for (int i = 0; i < length && sum > 0; i++) {
                int product = litres * weights.get(first + i);
                parts.put(i, product / sum);
                remainders.put(i, product % sum);
                left -= product / sum;
            }
            if (left > 0) {
                giveOut(left, boundOf(left, sum, length), length);
            }
        }

        /** Those above the bound are fewer than what is left, so each gets 1; of those at it the first ones do. */
        private void giveOut(int left, int bound, int length) {
            int forBound = left - reaching(bound + 1, length);
            for (int i = 0; i < length; i++) {
                int remainder = remainders.get(i);
                if (remainder > bound) {
                    parts.add(i, 1);
                } else if (remainder == bound && forBound > 0) {
                    parts.add(i, 1);
                    forBound--;
                }
            }
        }

        /** The greatest number that so many remainders reach; by halves, as lots may have many grains. */
        private int boundOf(int many, int sum, int length) {
            int low = 0;
            int high = sum;
            for (int step = 0; step < 32 && high - low > 1; step++) {
                int middle = (low + high) / 2;
                if (reaching(middle, length) >= many) {
                    low = middle;
                } else {
                    high = middle;
                }
            }
            return low;
        }

        private int reaching(int number, int length) {
            int many = 0;
            for (int i = 0; i < length; i++) {
                if (remainders.get(i) >= number) {
                    many++;
                }
            }
            return many;
        }
    }

    /** The grains of a lot stand side by side in two rows: in its own ones, or in those of all lots of a cellar. */
    private static final class Lot {
        private final Row keys;
        private final Row amounts;
        private final Row scores = new Row(TASTERS);
        private int number;
        private int first;
        private int grains;
        private int litres;
        private int kind;
        private int alcohol;
        private int acid;
        private int sugar;
        private int parts;

        Lot(Row keys, Row amounts) {
            this.keys = keys;
            this.amounts = amounts;
        }

        void clear() {
            number = 0;
            first = 0;
            grains = 0;
            litres = 0;
            kind = STEEL;
            alcohol = 0;
            acid = 0;
            sugar = 0;
            parts = 0;
            for (int taster = 0; taster < TASTERS; taster++) {
                scores.put(taster, NO_SCORE);
            }
        }

        /** All but the grains themselves. */
        void copy(Lot from) {
            scores.copy(from.scores, TASTERS);
            number = from.number;
            first = from.first;
            grains = from.grains;
            litres = from.litres;
            kind = from.kind;
            alcohol = from.alcohol;
            acid = from.acid;
            sugar = from.sugar;
            parts = from.parts;
        }

        /** Puts the grains of the lot like this one at a place; its own ones may go down from further up. */
        void lay(Lot like, int place) {
            int start = like.first;
            for (int i = 0; i < like.grains; i++) {
                keys.put(place + i, like.keys.get(start + i));
                amounts.put(place + i, like.amounts.get(start + i));
            }
            first = place;
        }

        int key(int grain) {
            return keys.get(first + grain);
        }

        int amount(int grain) {
            return amounts.get(first + grain);
        }

        /** Only for a lot with rows of its own: adds to the same grain, or puts a new one at its place in the order. */
        void pour(int key, int amount) {
            int place = 0;
            while (place < grains && key(place) < key) {
                place++;
            }
            if (place < grains && key(place) == key) {
                amounts.add(first + place, amount);
            } else {
                insert(first + place, key, amount);
            }
            litres += amount;
        }

        private void insert(int place, int key, int amount) {
            for (int i = first + grains; i > place; i--) {
                keys.put(i, keys.get(i - 1));
                amounts.put(i, amounts.get(i - 1));
            }
            keys.put(place, key);
            amounts.put(place, amount);
            grains++;
        }

        void take(int amount, Sharing sharing) {
            sharing.spread(amount, amounts, first, grains);
            lose(sharing.parts);
        }

        void takeInto(Lot mix, int amount, Sharing sharing) {
            sharing.spread(amount, amounts, first, grains);
            for (int i = 0; i < grains; i++) {
                int part = sharing.parts.get(i);
                if (part > 0) {
                    mix.pour(key(i), part);
                }
            }
            lose(sharing.parts);
        }

        private void lose(Row lost) {
            int kept = 0;
            litres = 0;
            for (int i = 0; i < grains; i++) {
                int left = amount(i) - lost.get(i);
                if (left > 0) {
                    keys.put(first + kept, key(i));
                    amounts.put(first + kept, left);
                    litres += left;
                    kept++;
                }
            }
            grains = kept;
        }

        int measure(Topic topic) {
            if (topic == Topic.ALCOHOL) {
                return alcohol;
            }
            return topic == Topic.ACID ? acid : sugar;
        }

        int shareOf(Topic topic, int value) {
            int with = 0;
            for (int i = 0; i < grains; i++) {
                if (topic.ofGrain(key(i)) == value) {
                    with += amount(i);
                }
            }
            return litres > 0 ? 100 * with / litres : 0;
        }

        long yearsAndOrigins() {
            long years = 0;
            long origins = 0;
            for (int i = 0; i < grains; i++) {
                int key = key(i);
                years |= 1L << (Topic.YEAR.ofGrain(key) - 2000);
                origins |= 1L << (56 + Topic.ORIGIN.ofGrain(key));
            }
            return (years >>> 8) | origins;
        }

        int scoresGiven() {
            int many = 0;
            for (int taster = 0; taster < TASTERS; taster++) {
                if (scores.get(taster) != NO_SCORE) {
                    many++;
                }
            }
            return many;
        }
    }

    private static final class Rules {
        private final Row kinds = new Row(MOST_RULES);
        private final Row subjects = new Row(MOST_RULES);
        private final Row bounds = new Row(MOST_RULES);
        private int size;

        void copy(Rules from) {
            kinds.copy(from.kinds, from.size);
            subjects.copy(from.subjects, from.size);
            bounds.copy(from.bounds, from.size);
            size = from.size;
        }

        void append(int kind, int subject, int bound) {
            kinds.put(size, kind);
            subjects.put(size, subject);
            bounds.put(size, bound);
            size++;
        }

        void remove(int index) {
            for (int i = index; i < size - 1; i++) {
                kinds.put(i, kinds.get(i + 1));
                subjects.put(i, subjects.get(i + 1));
                bounds.put(i, bounds.get(i + 1));
            }
            size--;
        }

        boolean has(int kind, int subject, int bound) {
            for (int i = 0; i < size; i++) {
                if (kinds.get(i) == kind && subjects.get(i) == subject && bounds.get(i) == bound) {
                    return true;
                }
            }
            return false;
        }

        int brokenBy(Lot wine) {
            int mask = 0;
            for (int i = 0; i < size; i++) {
                if (isBroken(i, wine)) {
                    mask |= 1 << i;
                }
            }
            return mask;
        }

        private boolean isBroken(int index, Lot wine) {
            int kind = kinds.get(index);
            int bound = bounds.get(index);
            Topic topic = Topic.ofKind(kind);
            int level = topic.isOfGrains() ? wine.shareOf(topic, subjects.get(index)) : wine.measure(topic);
            return topic.leastKind == kind ? level < bound : level > bound;
        }
    }

    /** All that a change can change: what the history keeps. */
    private static final class Cellar {
        private final Row keys = new Row(MOST_GRAINS);
        private final Row amounts = new Row(MOST_GRAINS);
        private final Lot[] lots;
        private final Rules rules = new Rules();
        private final Row settings = new Row(SETTINGS);
        private final Row accounts = new Row(ACCOUNTS);
        private int size;
        private int nextNumber;

        Cellar() {
            lots = new Lot[MOST_LOTS];
            for (int i = 0; i < lots.length; i++) {
                lots[i] = new Lot(keys, amounts);
            }
            settings.put(LOSS, 10);
            settings.put(SPAN, 40);
            settings.put(EVAPORATION, 5);
            settings.put(REJECT, 0);
        }

        void copy(Cellar from) {
            keys.copy(from.keys, MOST_GRAINS);
            amounts.copy(from.amounts, MOST_GRAINS);
            for (int i = 0; i < lots.length; i++) {
                Lot source = from.at(i);
                Lot target = lots[i];
                if (source != null && target != null) {
                    target.copy(source);
                }
            }
            rules.copy(from.rules);
            settings.copy(from.settings, SETTINGS);
            accounts.copy(from.accounts, ACCOUNTS);
            size = from.size;
            nextNumber = from.nextNumber;
        }

        /** The lot at a place in the order of the numbers, or null if there are not so many. */
        Lot at(int index) {
            return index >= 0 && index < size && index < lots.length ? lots[index] : null;
        }

        Lot find(int number) {
            for (int i = 0; i < size; i++) {
                Lot wine = at(i);
                if (wine != null && wine.number == number) {
                    return wine;
                }
            }
            return null;
        }

        /** Makes a lot like this one and gives it the next number, which is told. */
        int admit(Lot like, int kind) {
            if (size < 0 || size >= lots.length) {
                return LIMIT_REACHED;
            }
            Lot wine = lots[size];
            if (wine == null) {
                return LIMIT_REACHED;
            }
            wine.copy(like);
            wine.lay(like, closeUp());
            wine.kind = kind;
            wine.number = nextNumber;
            size++;
            nextNumber++;
            return wine.number;
        }

        /** Fills the places of grains that are gone, so that all free ones, whose first one is told, stand at the end. */
        private int closeUp() {
            int free = 0;
            for (int i = 0; i < size; i++) {
                Lot wine = at(i);
                if (wine != null) {
                    wine.lay(wine, free);
                    free += wine.grains;
                }
            }
            return free;
        }

        /** The rows of a lot that is gone change places with those of a lot that stays, to be used again. */
        void dropEmptyLots() {
            int kept = 0;
            for (int i = 0; i < size && i < lots.length && kept < lots.length; i++) {
                Lot wine = lots[i];
                if (wine != null && wine.litres > 0) {
                    lots[i] = lots[kept];
                    lots[kept] = wine;
                    kept++;
                }
            }
            size = kept;
        }

        /** A lot never evaporates wholly, as at most a tenth of it does in a month: none has to be dropped. */
        int letMonthGoBy(Sharing sharing) {
            int evaporated = 0;
            for (int i = 0; i < size; i++) {
                Lot wine = at(i);
                if (wine != null && wine.kind == OAK) {
                    int amount = wine.litres * settings.get(EVAPORATION) / 1000;
                    if (amount > 0) {
                        wine.take(amount, sharing);
                    }
                    evaporated += amount;
                }
            }
            return evaporated;
        }

        int lotsOfKind(int kind) {
            int many = 0;
            for (int i = 0; i < size; i++) {
                Lot wine = at(i);
                if (wine != null && wine.kind == kind) {
                    many++;
                }
            }
            return many;
        }

        int lotsInRecipe() {
            int many = 0;
            for (int i = 0; i < size; i++) {
                Lot wine = at(i);
                if (wine != null && wine.parts > 0) {
                    many++;
                }
            }
            return many;
        }

        int lotsWithScores() {
            int many = 0;
            for (int i = 0; i < size; i++) {
                Lot wine = at(i);
                if (wine != null && wine.scoresGiven() > 0) {
                    many++;
                }
            }
            return many;
        }

        int allGrains() {
            int many = 0;
            for (int i = 0; i < size; i++) {
                Lot wine = at(i);
                if (wine != null) {
                    many += wine.grains;
                }
            }
            return many;
        }

        int allLitres() {
            int litres = 0;
            for (int i = 0; i < size; i++) {
                Lot wine = at(i);
                if (wine != null) {
                    litres += wine.litres;
                }
            }
            return litres;
        }
    }

    /** The latest states, the oldest one first; their rows are used again when the oldest one is dropped. */
    private static final class History {
        private final Cellar[] states;
        private int size;

        History() {
            states = new Cellar[MOST_STATES];
            for (int i = 0; i < states.length; i++) {
                states[i] = new Cellar();
            }
        }

        void record(Cellar now) {
            if (size >= states.length) {
                dropOldest();
            }
            if (size < 0 || size >= states.length) {
                return;
            }
            Cellar state = states[size];
            if (state != null) {
                state.copy(now);
                size++;
            }
        }

        private void dropOldest() {
            for (int i = 1; i < states.length; i++) {
                Cellar state = states[i];
                states[i] = states[i - 1];
                states[i - 1] = state;
            }
            size--;
        }

        void restore(Cellar now) {
            if (size <= 0 || size > states.length) {
                return;
            }
            size--;
            Cellar state = states[size];
            if (state != null) {
                now.copy(state);
            }
        }
    }

    /** A blend that is made aside, with what would be left of the cellar behind the taking. */
    private static final class Trial {
        private final Cellar rest = new Cellar();
        private final Lot mix = new Lot(new Row(MOST_GRAINS), new Row(MOST_GRAINS));
        private final Sharing sharing;
        private final Row weights = new Row(MOST_LOTS);
        private final Row portions = new Row(MOST_LOTS);
        private int lost;

        Trial(Sharing sharing) {
            this.sharing = sharing;
        }

        /** Answers false if the recipe is empty or a lot has not as much as is taken from it. */
        boolean make(Cellar now, int litres) {
            if (litres <= 0 || now.lotsInRecipe() == 0 || !portion(now, litres)) {
                return false;
            }
            rest.copy(now);
            mix.clear();
            mix.alcohol = blended(Topic.ALCOHOL, litres);
            mix.acid = blended(Topic.ACID, litres);
            mix.sugar = blended(Topic.SUGAR, litres);
            for (int i = 0; i < rest.size; i++) {
                Lot wine = rest.at(i);
                int amount = portions.get(i);
                if (wine != null && amount > 0) {
                    wine.takeInto(mix, amount, sharing);
                }
            }
            rest.dropEmptyLots();
            lost = litres * now.settings.get(LOSS) / 1000;
            mix.take(lost, sharing);
            return true;
        }

        /** Lots outside the recipe weigh 0 and so get nothing: what is left goes to remainders above 0. */
        private boolean portion(Cellar now, int litres) {
            for (int i = 0; i < now.size; i++) {
                Lot wine = now.at(i);
                weights.put(i, wine == null ? 0 : wine.parts);
            }
            sharing.spread(litres, weights, 0, now.size);
            portions.copy(sharing.parts, now.size);
            for (int i = 0; i < now.size; i++) {
                Lot wine = now.at(i);
                if (wine == null || wine.litres < portions.get(i)) {
                    return false;
                }
            }
            return true;
        }

        private int blended(Topic topic, int litres) {
            int sum = 0;
            for (int i = 0; i < rest.size; i++) {
                Lot wine = rest.at(i);
                if (wine != null) {
                    sum += portions.get(i) * wine.measure(topic);
                }
            }
            return litres > 0 ? sum / litres : 0;
        }

        boolean fits(int kind) {
            return rest.size + 1 <= MOST_LOTS
                    && rest.lotsOfKind(kind) + 1 <= MOST_OF_A_KIND
                    && rest.allGrains() + mix.grains <= MOST_GRAINS;
        }

        /** Goes down litre by litre, as a smaller blend can need more of a lot than a greater one. */
        int greatest(Cellar now) {
            for (int litres = ceiling(now); litres >= 1; litres--) {
                if (portion(now, litres)) {
                    return litres;
                }
            }
            return NOT_FOUND;
        }

        /** A lot gives at least its part rounded down: above the ceiling that is more than some lot has. */
        private int ceiling(Cellar now) {
            int sum = 0;
            for (int i = 0; i < now.size; i++) {
                Lot wine = now.at(i);
                sum += wine == null ? 0 : wine.parts;
            }
            int most = MOST_LITRES;
            for (int i = 0; i < now.size; i++) {
                Lot wine = now.at(i);
                if (wine != null && wine.parts > 0) {
                    most = Math.min(most, ((wine.litres + 1) * sum - 1) / wine.parts);
                }
            }
            return most;
        }
    }

    private static final class Panel {
        private final Row ascending = new Row(TASTERS);
        private final float[] marks = new float[MOST_LOTS];
        private int middle;
        private int kept;
        private int outliers;
        private float mark;

        /** Answers false if the lot has no scores. */
        boolean judge(Lot wine, int span) {
            int many = arrange(wine);
            if (many == 0) {
                return false;
            }
            middle = ascending.get((many - 1) / 2);
            kept = 0;
            outliers = 0;
            int sum = 0;
            for (int taster = 0; taster < TASTERS; taster++) {
                int value = wine.scores.get(taster);
                if (value == NO_SCORE) {
                    continue;
                }
                if (Math.abs(value - middle) > span) {
                    outliers |= 1 << taster;
                } else {
                    kept++;
                    sum += value;
                }
            }
            mark = kept > 0 ? (float) sum / (float) kept : 0f;
            return true;
        }

        private int arrange(Lot wine) {
            int many = 0;
            for (int taster = 0; taster < TASTERS; taster++) {
                int value = wine.scores.get(taster);
                if (value == NO_SCORE) {
                    continue;
                }
                int place = many;
                while (place > 0 && ascending.get(place - 1) > value) {
                    ascending.put(place, ascending.get(place - 1));
                    place--;
                }
                ascending.put(place, value);
                many++;
            }
            return many;
        }

        /** The library here has no bits of floats; doubling is exact, until the 24 bits are a whole number. */
        int markAsBits() {
            if (mark <= 0f) {
                return 0;
            }
            float whole = mark;
            int exponent = 150;
            for (int step = 0; step < 100 && whole < 8388608f; step++) {
                whole = whole * 2f;
                exponent--;
            }
            return (exponent << 23) + ((int) whole - 8388608);
        }

        int lotAt(int place, Cellar now) {
            int span = now.settings.get(SPAN);
            for (int i = 0; i < marks.length; i++) {
                Lot wine = now.at(i);
                marks[i] = wine != null && judge(wine, span) ? mark : -1f;
            }
            for (int i = 0; i < marks.length; i++) {
                Lot wine = now.at(i);
                if (wine != null && marks[i] >= 0f && aheadOf(i) == place) {
                    return wine.number;
                }
            }
            return NOT_FOUND;
        }

        private int aheadOf(int index) {
            if (index < 0 || index >= marks.length) {
                return 0;
            }
            int ahead = 0;
            for (int i = 0; i < marks.length; i++) {
                if (marks[i] > marks[index] || (i < index && marks[i] == marks[index])) {
                    ahead++;
                }
            }
            return ahead;
        }
    }

    /** The text, and what its rules or its fault are behind the rules that stand. */
    private static final class Script {
        private final Row codes = new Row(MOST_CHARACTERS);
        private final Rules found = new Rules();
        private int length;
        private int rulesRead;
        private int place;
        private int reason;
        private int cursor;
        private int number;
        private int kind;
        private int subject;
        private int bound;

        void append(int character) {
            codes.put(length, character);
            length++;
        }

        /** Leaves the standing rules and those of the text in found, or the place and reason of the fault. */
        void check(Rules standing) {
            found.copy(standing);
            rulesRead = 0;
            place = 0;
            reason = NO_FAULT;
            cursor = 0;
            for (int turn = 0; turn < MOST_CHARACTERS && cursor < length && reason == NO_FAULT; turn++) {
                place = cursor;
                reason = reasonOfForm();
                if (reason == NO_FAULT) {
                    reason = reasonOfMeaning();
                }
                if (reason == NO_FAULT) {
                    found.append(kind, subject, bound);
                    rulesRead++;
                }
            }
        }

        private int reasonOfForm() {
            Topic topic = passTopic();
            if (topic == null) {
                return WRONG_WORD;
            }
            subject = 0;
            if (topic.isOfGrains()) {
                if (!passBlankAndNumber()) {
                    return BLANK_OR_NUMBER_MISSING;
                }
                subject = number;
            }
            if (!pass(' ')) {
                return BLANK_OR_NUMBER_MISSING;
            }
            kind = passSide(topic);
            if (kind == NO_KIND) {
                return WRONG_WORD;
            }
            if (!passBlankAndNumber()) {
                return BLANK_OR_NUMBER_MISSING;
            }
            bound = number;
            return pass(';') ? NO_FAULT : SEMICOLON_MISSING;
        }

        private int reasonOfMeaning() {
            if (!numbersAreInRange()) {
                return OUT_OF_RANGE;
            }
            if (found.has(kind, subject, bound)) {
                return THERE_ALREADY;
            }
            return found.size >= MOST_RULES ? TOO_MANY : NO_FAULT;
        }

        private boolean numbersAreInRange() {
            Topic topic = Topic.ofKind(kind);
            return topic.isOfGrains() ? topic.holds(subject) && within(bound, 0, 100) : topic.holds(bound);
        }

        private Topic passTopic() {
            for (int i = 0; i < Topic.COUNT; i++) {
                Topic topic = Topic.at(i);
                if (passWord(topic.word)) {
                    return topic;
                }
            }
            return null;
        }

        /** The kind of rule that the topic makes with the word here, or none. */
        private int passSide(Topic topic) {
            if (topic.leastKind != NO_KIND && passWord("least")) {
                return topic.leastKind;
            }
            if (topic.mostKind != NO_KIND && passWord("most")) {
                return topic.mostKind;
            }
            return NO_KIND;
        }

        private boolean passBlankAndNumber() {
            return pass(' ') && passNumber();
        }

        private boolean passNumber() {
            number = 0;
            int digits = 0;
            while (digits < 4 && within(codeAt(cursor), '0', '9')) {
                number = number * 10 + codeAt(cursor) - '0';
                cursor++;
                digits++;
            }
            return digits > 0;
        }

        /** A word is all the small letters that stand there, so none may follow it. */
        private boolean passWord(String word) {
            for (int i = 0; i < word.length(); i++) {
                if (codeAt(cursor + i) != word.charAt(i)) {
                    return false;
                }
            }
            int end = cursor + word.length();
            if (within(codeAt(end), 'a', 'z')) {
                return false;
            }
            cursor = end;
            return true;
        }

        private boolean pass(int character) {
            if (codeAt(cursor) != character) {
                return false;
            }
            cursor++;
            return true;
        }

        private int codeAt(int index) {
            return index < length ? codes.get(index) : 0;
        }
    }
}
