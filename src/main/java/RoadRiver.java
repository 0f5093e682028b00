/**
 * A valley road that an old deed lends to the river each spring: whose each yard is, who passes
 * for what, when to wait, where to dike, and which contracts never lose.
 */
public final class RoadRiver {
    public static final int NONE = -1, BAD = -2, NOT = -3, FULL = -4;

    private static final int SPRINGS = 3;
    private static final int ROAD = 3;
    private static final int TEXTS = 4;
    private static final int SPRING_BYTES = 30;
    private static final int ROAD_BYTES = 12;
    private static final int BYTES = 256;

    private static final int DAYS = 30;
    private static final int YARDS = 12;
    private static final int LEVELS = 10;
    private static final int DIKE_DAYS = 7;

    private static final int DIKES = 8;
    private static final int CONTRACTS = 8;
    private static final int SETS = 1 << CONTRACTS;
    private static final int FACTS = 8;
    private static final int SHEETS = 4;
    private static final int FORMS = 3;
    private static final int ITEMS = 60;
    private static final int AMOUNTS = 100;

    private static final int THAW = 0;
    private static final int GEORGE = 1;
    private static final int FERRY = 2;
    private static final int RIDGE = 3;
    private static final int PRICE = 4;
    private static final int LOSS = 5;
    private static final int NAG = 6;
    private static final int TERMS = 7;
    private static final int[] TERM_LEAST = {0, 0, 0, 1, 0, 0, 0};
    private static final int[] TERM_MOST = {9, 29, 99, 9, 99, 99, 9};
    private static final int[] TERM_FIRST = {3, 29, 5, 3, 1, 4, 1};

    private static final int NULL_FOUND = 1;
    private static final int INDEX_FOUND = 2;
    private static final int CAST_FOUND = 3;
    private static final int STORE_FOUND = 4;
    private static final int SIZE_FOUND = 5;
    private static final int FINDING_BASE = -10;

    private static final int BAD_NUMBER = -100000 + BAD;
    private static final long LEAST_LONG = -9223372036854775808L;
    private static final long BAD_LONG = LEAST_LONG - BAD;
    private static final long NOT_LONG = LEAST_LONG - NOT;
    private static final int BAD_ITEM = -2147483648;

    /** Far above the steps that Euclid's way needs for any two ints. */
    private static final int EUCLID_STEPS = 100;

    private final Text[] texts = new Text[TEXTS];
    private final int[] terms = new int[TERMS];
    private final int[] chances = new int[SPRINGS];
    private final Dikes dikes = new Dikes();
    private final Valley valley = new Valley(texts, terms, dikes);
    private final Waiting waiting = new Waiting(valley, terms, chances);
    private final Keeping keeping = new Keeping(valley);
    private final Contracts contracts = new Contracts(valley, chances);
    private final Facts facts = new Facts();
    private final Sheet[] sheets = new Sheet[SHEETS];
    private int latestFinding = 0;

    public RoadRiver() {
        for (int text = 0; text < TEXTS; text++) {
            texts[text] = new Text(text == ROAD ? ROAD_BYTES : SPRING_BYTES);
        }
        for (int term = 0; term < TERMS; term++) {
            terms[term] = TERM_FIRST[term];
        }
        for (int spring = 0; spring < SPRINGS; spring++) {
            chances[spring] = 1;
        }
        for (int s = 0; s < SHEETS; s++) {
            sheets[s] = new Sheet();
        }
    }

    // ---- road, springs, deed

    public int type(int text, int b) {
        if (!inside(text, TEXTS) || !inside(b, BYTES)) {
            return BAD;
        }
        if (texts[text].isFull()) {
            return FULL;
        }
        texts[text].append(b);
        valley.change();
        return texts[text].length;
    }

    public int undo(int text) {
        if (!inside(text, TEXTS)) {
            return BAD;
        }
        if (texts[text].length == 0) {
            return NOT;
        }
        texts[text].dropLast();
        valley.change();
        return texts[text].length;
    }

    public int wipe(int text) {
        if (!inside(text, TEXTS)) {
            return BAD;
        }
        int had = texts[text].length;
        texts[text].clear();
        valley.change();
        return had;
    }

    public int fault(int text) {
        return inside(text, TEXTS) ? texts[text].firstFault() : BAD;
    }

    public int height(int yard) {
        return isYard(yard) ? texts[ROAD].figure(yard) : BAD;
    }

    public int level(int spring, int day) {
        if (!isSpringDay(spring, day)) {
            return BAD;
        }
        valley.refresh();
        return valley.levelOn(spring, day);
    }

    public int set(int what, int v) {
        if (!inside(what, TERMS) || v < TERM_LEAST[what] || v > TERM_MOST[what]) {
            return BAD;
        }
        int was = terms[what];
        terms[what] = v;
        valley.change();
        return was;
    }

    public int odds(int spring, int v) {
        if (!inside(spring, SPRINGS) || !inside(v, AMOUNTS)) {
            return BAD;
        }
        int was = chances[spring];
        chances[spring] = v;
        return was;
    }

    public int dike(int from, int to, int day) {
        if (!dikes.mayBe(from, to, day)) {
            return BAD;
        }
        if (dikes.isFull()) {
            return FULL;
        }
        dikes.build(from, to, day);
        valley.change();
        return dikes.size;
    }

    public int read(int s) {
        if (!inside(s, SHEETS)) {
            return BAD;
        }
        if (sheets[s].isLost()) {
            return find(NULL_FOUND);
        }
        int came = dikes.buildFrom(sheets[s]);
        valley.change();
        return came;
    }

    public int breaks() {
        if (dikes.size == 0) {
            return NOT;
        }
        dikes.dropLast();
        valley.change();
        return dikes.size;
    }

    // ---- days

    public int possession(int spring) {
        if (!inside(spring, SPRINGS)) {
            return BAD;
        }
        valley.refresh();
        return valley.lentFrom(spring);
    }

    public int wet(int spring, int day, int yard) {
        if (!isSpringDay(spring, day) || !isYard(yard)) {
            return BAD;
        }
        valley.refresh();
        return valley.wetYards(spring, day) >> yard & 1;
    }

    public int water(int spring, int day, int what) {
        if (!isSpringDay(spring, day) || !inside(what, 2)) {
            return BAD;
        }
        valley.refresh();
        int wetYards = valley.wetYards(spring, day);
        return what == 0 ? wetYards : islands(wetYards);
    }

    public int cost(int spring, int day, int from, int to, int what) {
        if (!isSpringDay(spring, day) || !isYard(from) || !isYard(to) || !inside(what, 3)) {
            return BAD;
        }
        valley.refresh();
        int low = Math.min(from, to);
        int high = Math.max(from, to);
        int byRoad = roadCost(valley.wetYards(spring, day), low, high, terms[FERRY]);
        int byRidge = ridgeCost(low, high, terms[RIDGE]);
        if (what == 0) {
            return Math.min(byRoad, byRidge);
        }
        return what == 1 ? byRoad : byRidge;
    }

    public int closed(int spring, int yard) {
        if (!inside(spring, SPRINGS) || !isYard(yard)) {
            return BAD;
        }
        valley.refresh();
        return valley.closedDays(spring, yard);
    }

    public int deed(int spring, int what) {
        if (!inside(spring, SPRINGS) || !inside(what, 3)) {
            return BAD_NUMBER;
        }
        valley.refresh();
        int gravel = 0;
        int wetDays = 0;
        for (int day = 0; day < DAYS; day++) {
            int wetYards = valley.wetYards(spring, day);
            gravel += Integer.bitCount(wetYards);
            wetDays += wetYards == 0 ? 0 : 1;
        }
        if (what == 0) {
            return gravel;
        }
        return what == 1 ? wetDays : terms[PRICE] * gravel - terms[LOSS] * wetDays;
    }

    // ---- waiting, dikes

    public long waits(int spring, int day, int from, int to, int what) {
        if (!isSpringDay(spring, day) || !isYard(from) || !isYard(to) || !inside(what, 2)) {
            return BAD_LONG;
        }
        valley.refresh();
        waiting.reckon(day, Math.min(from, to), Math.max(from, to));
        int weight = waiting.weightOf(spring, day);
        if (weight == 0) {
            return NOT_LONG;
        }
        return fractionPart(waiting.weightedCost(spring), weight, what);
    }

    public int goes(int spring, int day, int from, int to) {
        if (!isSpringDay(spring, day) || !isYard(from) || !isYard(to)) {
            return BAD;
        }
        valley.refresh();
        waiting.reckon(day, Math.min(from, to), Math.max(from, to));
        if (waiting.weightOf(spring, day) == 0) {
            return NOT;
        }
        return waiting.isBestAtOnce(spring) ? 1 : 0;
    }

    public int keep(int spring, int day, int from, int to, int yards, int what) {
        if (!isSpringDay(spring, day) || !isYard(from) || !isYard(to)
                || yards < 1 || yards > YARDS || !inside(what, 3)) {
            return BAD;
        }
        valley.refresh();
        keeping.reckon(spring, day, Math.min(from, to), Math.max(from, to), yards);
        if (what == 0) {
            return keeping.bestDays;
        }
        return what == 1 ? keeping.bestFirst : keeping.bestYards;
    }

    // ---- contracts

    public int contract(int contract, int day, int pays, int costs) {
        if (!inside(contract, CONTRACTS) || !inside(day, DAYS)
                || !inside(pays, AMOUNTS) || !inside(costs, AMOUNTS)) {
            return BAD;
        }
        int was = contracts.isSigned(contract) ? 1 : 0;
        contracts.sign(contract, day, pays, costs);
        return was;
    }

    public int tears(int contract) {
        if (!inside(contract, CONTRACTS)) {
            return BAD;
        }
        int was = contracts.isSigned(contract) ? 1 : 0;
        contracts.tearUp(contract);
        return was;
    }

    public int never(int what) {
        if (!inside(what, 2)) {
            return BAD;
        }
        valley.refresh();
        contracts.reckon();
        return what == 0 ? contracts.safeSets : contracts.bestSet;
    }

    public long gain(int what) {
        if (!inside(what, 2)) {
            return BAD_LONG;
        }
        valley.refresh();
        contracts.reckon();
        return fractionPart(contracts.bestWeighted, allChances(), what);
    }

    // ---- signs

    public int watch() {
        valley.refresh();
        int bestDay = 0;
        int mostKinds = 0;
        for (int day = 0; day < DAYS; day++) {
            int kinds = levelKinds(day);
            if (kinds > mostKinds) {
                mostKinds = kinds;
                bestDay = day;
            }
        }
        return bestDay;
    }

    public int fact(int day, int yard, int is) {
        if (!inside(day, DAYS) || !inside(yard, YARDS) || !inside(is, 2)) {
            return BAD;
        }
        if (facts.isFull()) {
            return FULL;
        }
        facts.learn(day, yard, is);
        return facts.size;
    }

    public int forget() {
        int had = facts.size;
        facts.clear();
        return had;
    }

    public int fit() {
        valley.refresh();
        int yards = texts[ROAD].told();
        int springs = 0;
        for (int spring = 0; spring < SPRINGS; spring++) {
            if (facts.comeOutBy(valley, spring, yards)) {
                springs |= 1 << spring;
            }
        }
        return springs;
    }

    // ---- sheets

    public int sheet(int s, int form, int n) {
        if (!inside(s, SHEETS) || !inside(form, FORMS) || n > ITEMS) {
            return BAD;
        }
        if (n < 0) {
            return find(SIZE_FOUND);
        }
        sheets[s].renew(form, n);
        return n;
    }

    public int lose(int s) {
        if (!inside(s, SHEETS)) {
            return BAD;
        }
        if (sheets[s].isLost()) {
            return find(NULL_FOUND);
        }
        int had = sheets[s].size;
        sheets[s].drop();
        return had;
    }

    public int lay(int s, int form, int i, int v) {
        if (!inside(s, SHEETS) || !inside(form, FORMS)) {
            return BAD;
        }
        int trouble = sheets[s].trouble(form, i);
        if (trouble != 0) {
            return find(trouble);
        }
        sheets[s].put(i, v);
        return 1;
    }

    public int get(int s, int form, int i) {
        if (!inside(s, SHEETS) || !inside(form, FORMS)) {
            return BAD_ITEM;
        }
        int trouble = sheets[s].trouble(form, i);
        if (trouble != 0) {
            find(trouble);
            return BAD_ITEM;
        }
        return sheets[s].item(i);
    }

    public int copy(int s, int i, int t, int j, int n) {
        if (!inside(s, SHEETS) || !inside(t, SHEETS)) {
            return BAD;
        }
        if (sheets[s].isLost() || sheets[t].isLost()) {
            return find(NULL_FOUND);
        }
        if (sheets[s].form != sheets[t].form) {
            return find(STORE_FOUND);
        }
        if (!sheets[s].hasRun(i, n) || !sheets[t].hasRun(j, n)) {
            return find(INDEX_FOUND);
        }
        System.arraycopy(sheets[s].items, i, sheets[t].items, j, n);
        return 1;
    }

    public int write(int spring, int s) {
        if (!inside(spring, SPRINGS) || !inside(s, SHEETS)) {
            return BAD;
        }
        if (sheets[s].isLost()) {
            return find(NULL_FOUND);
        }
        valley.refresh();
        int many = Math.min(sheets[s].size, texts[ROAD].told());
        for (int yard = 0; yard < many; yard++) {
            sheets[s].put(yard, valley.closedDays(spring, yard));
        }
        return many;
    }

    public int count(int what) {
        switch (what) {
            case 0:
                return texts[ROAD].told();
            case 1:
            case 2:
            case 3:
                return texts[what - 1].told();
            case 4:
                return dikes.size;
            case 5:
                return Integer.bitCount(contracts.present);
            case 6:
                return facts.size;
            case 7:
                return allChances();
            case 8:
                return latestFinding;
            default:
                return BAD;
        }
    }

    public long digest() {
        long h = 17;
        for (int what = 0; what <= 7; what++) {
            h = 31 * h + count(what);
        }
        for (int text = 0; text < TEXTS; text++) {
            h = 31 * h + fault(text);
        }
        int yards = texts[ROAD].told();
        for (int yard = 0; yard < yards; yard++) {
            h = 31 * h + height(yard);
        }
        for (int spring = 0; spring < SPRINGS; spring++) {
            h = digestSpring(h, spring);
        }
        h = 31 * h + never(0);
        h = 31 * h + never(1);
        h = 31 * h + gain(0);
        h = 31 * h + gain(1);
        h = 31 * h + watch();
        return 31 * h + fit();
    }

    private long digestSpring(long before, int spring) {
        long h = 31 * before + possession(spring);
        h = 31 * h + water(spring, 5, 0);
        h = 31 * h + water(spring, 5, 1);
        for (int what = 0; what < 3; what++) {
            h = 31 * h + cost(spring, 5, 0, 3, what);
        }
        for (int what = 0; what < 3; what++) {
            h = 31 * h + deed(spring, what);
        }
        h = 31 * h + waits(spring, 4, 0, 2, 0);
        h = 31 * h + waits(spring, 4, 0, 2, 1);
        h = 31 * h + goes(spring, 4, 0, 2);
        for (int what = 0; what < 3; what++) {
            h = 31 * h + keep(spring, 5, 0, 4, 2, what);
        }
        return 31 * h + closed(spring, 0);
    }

    private int find(int number) {
        latestFinding = number;
        return FINDING_BASE - number;
    }

    private boolean isYard(int yard) {
        return inside(yard, texts[ROAD].told());
    }

    private static boolean isSpringDay(int spring, int day) {
        return spring >= 0 && spring < SPRINGS && day >= 0 && day < DAYS;
    }

    private int allChances() {
        int all = 0;
        for (int spring = 0; spring < SPRINGS; spring++) {
            all += chances[spring];
        }
        return all;
    }

    private int levelKinds(int day) {
        int seen = 0;
        for (int spring = 0; spring < SPRINGS; spring++) {
            if (chances[spring] > 0) {
                seen |= 1 << valley.levelOn(spring, day);
            }
        }
        return Integer.bitCount(seen);
    }

    private static boolean inside(int number, int many) {
        return number >= 0 && number < many;
    }

    /** The bits of yards from one to another one; none, if the last is below the first. */
    private static int yardBits(int first, int last) {
        return last < first ? 0 : (1 << last + 1) - (1 << first);
    }

    /** A yard outside the road is never wet, so the ends of the road are no islands. */
    private static int islands(int wetYards) {
        return wetYards << 1 & wetYards >> 1 & ~wetYards;
    }

    private static int roadCost(int wetYards, int low, int high, int ferry) {
        int sum = 0;
        boolean onFerry = false;
        for (int yard = low; yard <= high; yard++) {
            boolean isWet = (wetYards >> yard & 1) == 1;
            if (!isWet) {
                sum++;
            } else if (!onFerry) {
                sum += ferry;
            }
            onFerry = isWet;
        }
        return sum;
    }

    private static int ridgeCost(int low, int high, int ridge) {
        return ridge * (high - low + 1);
    }

    /** What stands above (0) or below (1) in lowest terms; nothing by nothing is 0 by 1. */
    private static long fractionPart(int above, int below, int what) {
        int divisor = commonDivisor(above, below);
        if (divisor == 0) {
            return what == 0 ? 0 : 1;
        }
        return what == 0 ? above / divisor : below / divisor;
    }

    private static int commonDivisor(int a, int b) {
        int large = a;
        int small = b;
        for (int step = 0; step < EUCLID_STEPS && small != 0; step++) {
            int rest = large % small;
            large = small;
            small = rest;
        }
        return large;
    }

    /** Bytes that are read as figures, unless one of them is none. */
    private static final class Text {
        private final int[] bytes;
        private int length = 0;

        Text(int limit) {
            bytes = new int[Math.max(limit, 0)];
        }

        boolean isFull() {
            return length >= bytes.length;
        }

        void append(int b) {
            if (inside(length, bytes.length)) {
                bytes[length] = b;
                length++;
            }
        }

        void dropLast() {
            length = Math.max(length - 1, 0);
        }

        void clear() {
            length = 0;
        }

        int firstFault() {
            for (int place = 0; place < length && place < bytes.length; place++) {
                if (bytes[place] < '0' || bytes[place] > '9') {
                    return place;
                }
            }
            return NONE;
        }

        /** How many figures the text tells: with a fault none. */
        int told() {
            return firstFault() == NONE ? length : 0;
        }

        int figure(int place) {
            return inside(place, length) && inside(place, bytes.length) ? bytes[place] - '0' : 0;
        }
    }

    private static final class Dikes {
        private final int[] firsts = new int[DIKES];
        private final int[] lasts = new int[DIKES];
        private final int[] starts = new int[DIKES];
        private int size = 0;

        boolean mayBe(int from, int to, int day) {
            return inside(from, YARDS) && inside(to, YARDS) && inside(day, DAYS) && from <= to;
        }

        boolean isFull() {
            return size >= DIKES;
        }

        void build(int from, int to, int day) {
            if (inside(size, DIKES)) {
                firsts[size] = from;
                lasts[size] = to;
                starts[size] = day;
                size++;
            }
        }

        void dropLast() {
            size = Math.max(size - 1, 0);
        }

        /** The first three items that may be no dike end it, as a lack of room does. */
        int buildFrom(Sheet sheet) {
            int came = 0;
            for (int at = 0; at + 2 < sheet.size; at += 3) {
                int from = sheet.item(at);
                int to = sheet.item(at + 1);
                int day = sheet.item(at + 2);
                if (isFull() || !mayBe(from, to, day)) {
                    return came;
                }
                build(from, to, day);
                came++;
            }
            return came;
        }

        int keptYards(int day) {
            int kept = 0;
            for (int dike = 0; dike < size && dike < DIKES; dike++) {
                if (day >= starts[dike] && day < starts[dike] + DIKE_DAYS) {
                    kept |= yardBits(firsts[dike], lasts[dike]);
                }
            }
            return kept;
        }
    }

    /**
     * What follows from texts, deed and dikes, day by day. It is reckoned only when it is asked for
     * after a change, as most calls only type.
     */
    private static final class Valley {
        private final Text[] texts;
        private final int[] terms;
        private final Dikes dikes;
        private final int[][] levels = new int[SPRINGS][DAYS];
        private final int[][] wetBits = new int[SPRINGS][DAYS];
        private final int[] possessions = new int[SPRINGS];
        private final int[] lowYards = new int[LEVELS];
        private final int[] keptYards = new int[DAYS];
        private boolean isStale = true;

        Valley(Text[] texts, int[] terms, Dikes dikes) {
            this.texts = texts;
            this.terms = terms;
            this.dikes = dikes;
        }

        void change() {
            isStale = true;
        }

        void refresh() {
            if (!isStale) {
                return;
            }
            fillLowYards();
            for (int day = 0; day < DAYS; day++) {
                keptYards[day] = dikes.keptYards(day);
            }
            for (int spring = 0; spring < SPRINGS; spring++) {
                fillLevels(spring);
                possessions[spring] = firstThaw(spring);
                fillWet(spring);
            }
            isStale = false;
        }

        int levelOn(int spring, int day) {
            return isSpringDay(spring, day) ? levels[spring][day] : 0;
        }

        int lentFrom(int spring) {
            return inside(spring, SPRINGS) ? possessions[spring] : NONE;
        }

        int wetYards(int spring, int day) {
            return isSpringDay(spring, day) ? wetBits[spring][day] : 0;
        }

        /** The first day on which the levels of two springs differ; behind the last one, if none. */
        int parting(int spring, int other) {
            if (!inside(spring, SPRINGS) || !inside(other, SPRINGS)) {
                return DAYS;
            }
            for (int day = 0; day < DAYS; day++) {
                if (levels[spring][day] != levels[other][day]) {
                    return day;
                }
            }
            return DAYS;
        }

        int closedDays(int spring, int yard) {
            int days = 0;
            for (int day = 0; day < DAYS; day++) {
                days += wetYards(spring, day) >> yard & 1;
            }
            return days;
        }

        private void fillLowYards() {
            int yards = texts[ROAD].told();
            for (int level = 0; level < LEVELS; level++) {
                int low = 0;
                for (int yard = 0; yard < yards; yard++) {
                    if (level > texts[ROAD].figure(yard)) {
                        low |= 1 << yard;
                    }
                }
                lowYards[level] = low;
            }
        }

        private void fillLevels(int spring) {
            int told = texts[spring].told();
            for (int day = 0; day < DAYS; day++) {
                levels[spring][day] = day < told ? texts[spring].figure(day) : 0;
            }
        }

        private int firstThaw(int spring) {
            for (int day = 0; day <= terms[GEORGE] && day < DAYS; day++) {
                if (levels[spring][day] >= terms[THAW]) {
                    return day;
                }
            }
            return NONE;
        }

        private void fillWet(int spring) {
            int first = possessions[spring];
            for (int day = 0; day < DAYS; day++) {
                boolean isLent = first != NONE && day >= first && day <= terms[GEORGE];
                int level = levels[spring][day];
                wetBits[spring][day] = isLent && inside(level, LEVELS)
                        ? lowYards[level] & ~keptYards[day] : 0;
            }
        }
    }

    /**
     * The best choice of one who does not know the spring. Means are held times the odds of the
     * springs that may still be so: thus they stay whole numbers.
     */
    private static final class Waiting {
        private final Valley valley;
        private final int[] terms;
        private final int[] chances;
        private final int[][] partings = new int[SPRINGS][SPRINGS];
        private final int[] weighted = new int[SPRINGS];
        private final int[] nextCases = new int[SPRINGS];
        private final boolean[] bestAtOnce = new boolean[SPRINGS];

        Waiting(Valley valley, int[] terms, int[] chances) {
            this.valley = valley;
            this.terms = terms;
            this.chances = chances;
        }

        void reckon(int fromDay, int low, int high) {
            fillPartings();
            for (int day = DAYS - 1; day >= fromDay && day >= 0; day--) {
                fillNextCases(day + 1);
                for (int spring = 0; spring < SPRINGS; spring++) {
                    choose(spring, day, low, high);
                }
            }
        }

        int weightedCost(int spring) {
            return inside(spring, SPRINGS) ? weighted[spring] : 0;
        }

        boolean isBestAtOnce(int spring) {
            return inside(spring, SPRINGS) && bestAtOnce[spring];
        }

        /** The odds together of springs that have the same levels up to a day. */
        int weightOf(int spring, int day) {
            return inside(spring, SPRINGS) ? sumOfAlike(chances, spring, day) : 0;
        }

        private void choose(int spring, int day, int low, int high) {
            int weight = sumOfAlike(chances, spring, day);
            int byRoad = roadCost(valley.wetYards(spring, day), low, high, terms[FERRY]);
            int going = weight * Math.min(byRoad, ridgeCost(low, high, terms[RIDGE]));
            int staying = weight * terms[NAG] + sumOfAlike(nextCases, spring, day);
            bestAtOnce[spring] = day == DAYS - 1 || going <= staying;
            weighted[spring] = bestAtOnce[spring] ? going : staying;
        }

        /** Springs that are alike up to the next day are one case: the first stands for them. */
        private void fillNextCases(int nextDay) {
            for (int spring = 0; spring < SPRINGS; spring++) {
                boolean isFirst = true;
                for (int other = 0; other < spring; other++) {
                    isFirst = isFirst && nextDay >= partings[spring][other];
                }
                nextCases[spring] = isFirst ? weighted[spring] : 0;
            }
        }

        private int sumOfAlike(int[] ofSprings, int spring, int day) {
            int sum = 0;
            for (int other = 0; other < SPRINGS; other++) {
                sum += day < partings[spring][other] ? ofSprings[other] : 0;
            }
            return sum;
        }

        private void fillPartings() {
            for (int spring = 0; spring < SPRINGS; spring++) {
                partings[spring][spring] = DAYS;
                for (int other = 0; other < spring; other++) {
                    int day = valley.parting(spring, other);
                    partings[spring][other] = day;
                    partings[other][spring] = day;
                }
            }
        }
    }

    /** The dike more that keeps a way dry on the most days. */
    private static final class Keeping {
        private final Valley valley;
        private int bestDays = 0;
        private int bestFirst = 0;
        private int bestYards = 0;

        Keeping(Valley valley) {
            this.valley = valley;
        }

        /** Shorter and earlier dikes are tried first, so only more days put another one ahead. */
        void reckon(int spring, int day, int low, int high, int most) {
            int way = yardBits(low, high);
            bestDays = dryDays(spring, day, way);
            bestFirst = 0;
            bestYards = 0;
            for (int yards = 1; yards <= most && yards <= high - low + 1; yards++) {
                for (int first = low; first + yards - 1 <= high; first++) {
                    int open = way & ~yardBits(first, first + yards - 1);
                    int days = dryDays(spring, day, open);
                    if (days > bestDays) {
                        bestDays = days;
                        bestFirst = first;
                        bestYards = yards;
                    }
                }
            }
        }

        private int dryDays(int spring, int from, int yards) {
            int days = 0;
            for (int day = from; day < from + DIKE_DAYS && day < DAYS; day++) {
                if ((valley.wetYards(spring, day) & yards) == 0) {
                    days++;
                }
            }
            return days;
        }
    }

    private static final class Contracts {
        private final Valley valley;
        private final int[] chances;
        private final int[] lastDays = new int[CONTRACTS];
        private final int[] payments = new int[CONTRACTS];
        private final int[] prices = new int[CONTRACTS];
        private final int[][] brought = new int[SPRINGS][SETS];
        private int present = 0;
        private int safeSets = 0;
        private int bestSet = 0;
        private int bestWeighted = 0;

        Contracts(Valley valley, int[] chances) {
            this.valley = valley;
            this.chances = chances;
        }

        void sign(int contract, int day, int pays, int costs) {
            if (inside(contract, CONTRACTS)) {
                lastDays[contract] = day;
                payments[contract] = pays;
                prices[contract] = costs;
                present |= 1 << contract;
            }
        }

        boolean isSigned(int contract) {
            return (present >> contract & 1) == 1;
        }

        void tearUp(int contract) {
            present &= ~(1 << contract);
        }

        /** The empty set never loses and brings 0, so the best begins with it. */
        void reckon() {
            for (int spring = 0; spring < SPRINGS; spring++) {
                fillBrought(spring);
            }
            safeSets = 0;
            bestSet = 0;
            bestWeighted = 0;
            for (int set = 0; set < SETS; set++) {
                if ((set & ~present) == 0 && neverLoses(set)) {
                    safeSets++;
                    int sum = weightedSum(set);
                    if (sum > bestWeighted) {
                        bestWeighted = sum;
                        bestSet = set;
                    }
                }
            }
        }

        /**
         * Each contract doubles the sets told so far: those without it, then those with it. Sets
         * with one that is not there are not told anew, as nobody looks at them.
         */
        private void fillBrought(int spring) {
            brought[spring][0] = 0;
            for (int contract = 0; contract < CONTRACTS; contract++) {
                int amount = amountOf(contract, spring);
                int many = isSigned(contract) ? 1 << contract : 0;
                for (int set = 0; set < many && many + set < SETS; set++) {
                    brought[spring][many + set] = brought[spring][set] + amount;
                }
            }
        }

        private int amountOf(int contract, int spring) {
            int day = valley.lentFrom(spring);
            boolean isPaid = day != NONE && day <= lastDays[contract];
            return (isPaid ? payments[contract] : 0) - prices[contract];
        }

        private boolean neverLoses(int set) {
            for (int spring = 0; spring < SPRINGS; spring++) {
                if (chances[spring] > 0 && brought[spring][set] < 0) {
                    return false;
                }
            }
            return true;
        }

        private int weightedSum(int set) {
            int sum = 0;
            for (int spring = 0; spring < SPRINGS; spring++) {
                sum += chances[spring] * brought[spring][set];
            }
            return sum;
        }
    }

    private static final class Facts {
        private final int[] days = new int[FACTS];
        private final int[] yards = new int[FACTS];
        private final int[] signs = new int[FACTS];
        private int size = 0;

        boolean isFull() {
            return size >= FACTS;
        }

        void learn(int day, int yard, int is) {
            if (inside(size, FACTS)) {
                days[size] = day;
                yards[size] = yard;
                signs[size] = is;
                size++;
            }
        }

        void clear() {
            size = 0;
        }

        boolean comeOutBy(Valley valley, int spring, int roadYards) {
            for (int fact = 0; fact < size && fact < FACTS; fact++) {
                int sign = valley.wetYards(spring, days[fact]) >> yards[fact] & 1;
                if (yards[fact] < roadYards && sign != signs[fact]) {
                    return false;
                }
            }
            return true;
        }
    }

    /** A row of items of a form; they are held as ints, cut to the form when they are put. */
    private static final class Sheet {
        private static final int LOST = -1;
        private final int[] items = new int[ITEMS];
        private int form = LOST;
        private int size = 0;

        boolean isLost() {
            return form == LOST;
        }

        void renew(int newForm, int n) {
            form = newForm;
            size = Math.max(0, Math.min(n, ITEMS));
            for (int i = 0; i < ITEMS; i++) {
                items[i] = 0;
            }
        }

        void drop() {
            form = LOST;
            size = 0;
        }

        /** The finding of one who treats an item as of a form; 0, if there is none. */
        int trouble(int asForm, int i) {
            if (isLost()) {
                return NULL_FOUND;
            }
            if (form != asForm) {
                return CAST_FOUND;
            }
            return inside(i, size) ? 0 : INDEX_FOUND;
        }

        int item(int i) {
            return inside(i, size) && inside(i, ITEMS) ? items[i] : 0;
        }

        void put(int i, int v) {
            if (inside(i, size) && inside(i, ITEMS)) {
                items[i] = cut(v);
            }
        }

        /** Told by differences, as the sum of a place and a number might wrap. */
        boolean hasRun(int i, int n) {
            return i >= 0 && n >= 0 && i <= size && n <= size - i;
        }

        private int cut(int v) {
            if (form == 0) {
                return (byte) v;
            }
            return form == 1 ? (short) v : v;
        }
    }
}
