/** Promises 19 to 21, and what is said of waiting and of a dike more: each sentence with a boundary. */
public final class WaitingEdgesTest {
    private static final int BAD = RoadRiver.BAD;
    private static final int NOT = RoadRiver.NOT;
    private static final long BAD_LONG = Long.MIN_VALUE + 2;
    private static final long NOT_LONG = Long.MIN_VALUE + 3;
    private static final int LEAST = Integer.MIN_VALUE;
    private static final int MOST = Integer.MAX_VALUE;
    private static final String FLOOD = "9".repeat(30);
    private static final String DRY_AT_LAST = "9".repeat(29) + "0";
    private static final String LOW_ROAD = "0".repeat(12);

    private static final Check check = new Check();

    public static void main(String[] args) {
        upToTheLastDay();
        nagForEachDay();
        onTheLastDayOneGoes();
        levelsUpToThatDayAreSeen();
        springsWithTheSameLevels();
        onceApartAlwaysApart();
        byTheirOdds();
        ofLikeOnesYes();
        dikesAreKnown();
        fractionsInLowestTerms();
        notIfAllOddsAreZero();
        waitsRefuses();
        goesRefuses();
        keepForSevenDays();
        keepOfUpToSoManyYards();
        keepWithTheFewestYards();
        keepWhereTheLowYardsLie();
        keepTheFirstOfLikeOnes();
        keepTheFirstOfAnyTwo();
        keepHoweverManyThereAre();
        keepNone();
        keepOnDaysThatAreNotLent();
        keepRefuses();
        check.end();
    }

    /** A dear ferry and a dear ridge: 9 for a wet yard. */
    private static RoadRiver dear(String road, String... springs) {
        RoadRiver x = Check.valley(road, springs);
        x.set(2, 99);
        x.set(3, 9);
        return x;
    }

    private static void odds(RoadRiver x, int... v) {
        for (int spring = 0; spring < v.length; spring++) {
            x.odds(spring, v[spring]);
        }
    }

    /** From the first yard to the last one. */
    private static void waits(String what, RoadRiver x, int spring, int day, long above, long below, int goes) {
        int last = x.count(0) - 1;
        check.due(what + ", above", x.waits(spring, day, 0, last, 0), above);
        check.due(what + ", below", x.waits(spring, day, 0, last, 1), below);
        check.due(what + ", goes", x.goes(spring, day, 0, last), goes);
        check.due(what + ", back", x.waits(spring, day, last, 0, 0), above);
        check.due(what + ", goes back", x.goes(spring, day, last, 0), goes);
    }

    private static void upToTheLastDay() {
        check.says("goes on that DAY or a later one, up to DAY 29");
        RoadRiver x = dear(LOW_ROAD, DRY_AT_LAST, DRY_AT_LAST, DRY_AT_LAST);
        for (int day = 0; day < 30; day++) {
            waits("dry on day 29, from day " + day, x, day % 3, day, 29 - day + 12, 1, day == 29 ? 1 : 0);
        }
        for (int text = 0; text < 3; text++) {
            x.undo(text);
            x.type(text, '9');
        }
        for (int day = 0; day < 30; day++) {
            waits("never dry, from day " + day, x, day % 3, day, 99, 1, 1);
        }
    }

    private static void nagForEachDay() {
        check.says("for the COST of the way and NAG (0 to 9; 1 at first) for each DAY of waiting");
        RoadRiver x = dear(LOW_ROAD, DRY_AT_LAST, DRY_AT_LAST, DRY_AT_LAST);
        x.set(6, 0);
        waits("nag 0, day 0", x, 0, 0, 12, 1, 0);
        waits("nag 0, day 28", x, 0, 28, 12, 1, 0);
        x.set(6, 2);
        waits("nag 2, day 0", x, 0, 0, 58 + 12, 1, 0);
        x.set(6, 3);
        waits("nag 3, day 0: 87 and 12 are as much as 99", x, 0, 0, 99, 1, 1);
        waits("nag 3, day 1", x, 0, 1, 84 + 12, 1, 0);
        x.set(6, 9);
        waits("nag 9, day 19", x, 0, 19, 99, 1, 1);
        waits("nag 9, day 20", x, 0, 20, 81 + 12, 1, 0);
        waits("nag 9, day 28", x, 0, 28, 9 + 12, 1, 0);
    }

    private static void onTheLastDayOneGoes() {
        check.says("goes on that DAY or a later one, up to DAY 29");
        RoadRiver x = dear("00", FLOOD, DRY_AT_LAST, "");
        x.set(6, 0);
        waits("wet on day 29", x, 0, 29, 18, 1, 1);
        waits("dry on day 29", x, 1, 29, 2, 1, 1);
        waits("one of the two", x, 0, 28, 10, 1, 0);
        waits("dry all along", x, 2, 29, 2, 1, 1);
        waits("dry all along", x, 2, 0, 2, 1, 1);
    }

    private static void levelsUpToThatDayAreSeen() {
        check.says("stands there on a DAY, having seen all LEVELS up to it (as those of a told SPRING)");
        RoadRiver x = dear("0", "990", FLOOD, "");
        odds(x, 1, 1, 0);
        waits("day 0, either", x, 0, 0, 7, 1, 0);
        waits("day 1, either", x, 0, 1, 6, 1, 0);
        waits("day 1, as the other one", x, 1, 1, 6, 1, 0);
        waits("day 2, it fell", x, 0, 2, 1, 1, 1);
        waits("day 2, it did not fall", x, 1, 2, 9, 1, 1);
        // apart on day 0 already
        RoadRiver y = dear("0", "90", "80" + "9".repeat(28), "");
        odds(y, 1, 1, 0);
        waits("day 0 tells which one it is", y, 0, 0, 2, 1, 0);
        // apart on day 29 alone
        RoadRiver z = dear("0", FLOOD, DRY_AT_LAST, "");
        odds(z, 1, 1, 0);
        waits("day 28", z, 0, 28, 6, 1, 0);
        waits("day 29, wet", z, 0, 29, 9, 1, 1);
        waits("day 29, dry", z, 1, 29, 1, 1, 1);
    }

    private static void springsWithTheSameLevels() {
        check.says("by SPRINGS that have the same LEVELS so far");
        RoadRiver x = dear("0", "5", "50000", "5" + "0".repeat(29));
        odds(x, 0, 0, 1);
        for (int spring = 0; spring < 3; spring++) {
            waits("behind the last one told they are alike", x, spring, 29, 1, 1, 1);
        }
        Check.retype(x, 0, "");
        Check.retype(x, 1, "0");
        Check.retype(x, 2, "999x");
        for (int spring = 0; spring < 3; spring++) {
            waits("empty, 0, with a fault: alike", x, spring, 29, 1, 1, 1);
        }
        RoadRiver y = dear("0", "999", "9990", "9991");
        odds(y, 0, 1, 0);
        check.due("alike", y.goes(0, 29, 0, 0), 1);
        check.due("alike up to day 2", y.goes(2, 2, 0, 0), 0);
        check.due("apart on day 3", y.goes(2, 3, 0, 0), NOT);
    }

    private static void onceApartAlwaysApart() {
        check.says("by SPRINGS that have the same LEVELS so far");
        RoadRiver x = dear("0", "5999", "6999", "");
        odds(x, 0, 1, 1);
        for (int day = 0; day < 30; day += 29) {
            check.due("the levels of one day are not all", x.waits(0, day, 0, 0, 0), NOT_LONG);
            check.due("the levels of one day are not all", x.goes(0, day, 0, 0), NOT);
        }
    }

    /** Of three springs that are alike on day 0 the first is dry on day 1, the others stay wet: 9. */
    private static void byTheirOdds() {
        check.says("the least mean by the best choice on each DAY, by SPRINGS that have the same LEVELS so far, by "
                + "their ODDS");
        RoadRiver x = dear("0", "90", FLOOD, FLOOD);
        waits("1 and a mean of 19 by 3", x, 0, 0, 22, 3, 0);
        odds(x, 99, 99, 99);
        waits("as much, of the most odds", x, 0, 0, 22, 3, 0);
        odds(x, 99, 98, 97);
        // 1 and (99 + 195 * 9) by 294
        waits("unlike odds", x, 2, 0, 358, 49, 0);
        odds(x, 1, 99, 99);
        waits("rarely dry", x, 0, 0, 9, 1, 1);
        odds(x, 1, 0, 0);
        waits("surely dry", x, 1, 0, 2, 1, 0);
        odds(x, 0, 1, 0);
        waits("surely wet", x, 0, 0, 9, 1, 1);
        waits("odds 0, told spring", x, 2, 5, 9, 1, 1);
    }

    private static void ofLikeOnesYes() {
        check.says("GO: whether it is best to go at once (of like ones yes)");
        RoadRiver x = dear("0", "90", FLOOD, "");
        // 1 and (1 + 7 * 9) by 8 are 9
        odds(x, 1, 7, 0);
        waits("like ones", x, 0, 0, 9, 1, 1);
        odds(x, 14, 98, 0);
        waits("like ones", x, 0, 0, 9, 1, 1);
        odds(x, 1, 6, 0);
        waits("a little less", x, 0, 0, 62, 7, 0);
        odds(x, 14, 97, 0);
        // 1 and (14 + 97 * 9) by 111
        waits("a very little less", x, 0, 0, 998, 111, 0);
        odds(x, 14, 99, 0);
        waits("a little more", x, 0, 0, 9, 1, 1);
        RoadRiver y = dear("00", "", "", "");
        y.set(6, 0);
        waits("nothing changes, nag 0", y, 0, 0, 2, 1, 1);
    }

    private static void dikesAreKnown() {
        check.says("(DIKES are known)");
        RoadRiver x = dear("000", FLOOD, FLOOD, FLOOD);
        x.dike(0, 2, 10);
        waits("day 0", x, 0, 0, 13, 1, 0);
        waits("day 9", x, 0, 9, 4, 1, 0);
        waits("day 10", x, 0, 10, 3, 1, 1);
        waits("day 16", x, 0, 16, 3, 1, 1);
        waits("day 17", x, 0, 17, 27, 1, 1);
        x.set(6, 3);
        waits("too long to wait", x, 0, 0, 27, 1, 1);
        waits("not too long", x, 0, 3, 24, 1, 0);
        x.breaks();
        waits("it broke", x, 0, 9, 27, 1, 1);
    }

    private static void fractionsInLowestTerms() {
        check.says("FRACTIONS are told in lowest terms, above and below (0 by 1)");
        RoadRiver x = Check.valley("0", FLOOD, FLOOD, FLOOD);
        odds(x, 99, 99, 99);
        waits("a whole number", x, 0, 0, 3, 1, 1);
        x.set(2, 0);
        waits("0 by 1", x, 0, 0, 0, 1, 1);
        RoadRiver y = dear("0", "90", FLOOD, "");
        y.set(6, 0);
        int[][] rows = {{1, 1, 5, 1}, {2, 4, 19, 3}, {4, 2, 11, 3}, {6, 2, 3, 1}, {99, 97, 243, 49}, {97, 99, 247, 49},
            {99, 98, 981, 197}, {64, 32, 11, 3}};
        for (int[] row : rows) {
            odds(y, row[0], row[1], 0);
            waits("odds " + row[0] + " and " + row[1], y, 1, 0, row[2], row[3], 0);
        }
    }

    private static void notIfAllOddsAreZero() {
        check.says("NOT: all ODDS of these together are 0");
        RoadRiver x = dear("0", "90", FLOOD, FLOOD);
        odds(x, 0, 0, 1);
        check.due("alike with one that may be", x.waits(0, 0, 0, 0, 0), 9);
        check.due("alone", x.waits(0, 1, 0, 0, 0), NOT_LONG);
        check.due("alone, below", x.waits(0, 1, 0, 0, 1), NOT_LONG);
        check.due("alone", x.goes(0, 1, 0, 0), NOT);
        check.due("alike all along", x.waits(1, 29, 0, 0, 0), 9);
        check.due("alike all along", x.goes(1, 29, 0, 0), 1);
        odds(x, 0, 0, 0);
        for (int spring = 0; spring < 3; spring++) {
            for (int day = 0; day < 30; day++) {
                check.due("no odds at all", x.waits(spring, day, 0, 0, day % 2), NOT_LONG);
                check.due("no odds at all", x.goes(spring, day, 0, 0), NOT);
            }
        }
        x.odds(0, 1);
        check.due("odds 1 are enough", x.waits(1, 0, 0, 0, 0), 2);
    }

    private static void waitsRefuses() {
        check.says("WAIT: above, below. BAD; NOT. (As the least long and x more.)");
        int[][] wrong = {{-1, 0, 0, 0, 0}, {3, 0, 0, 0, 0}, {0, -1, 0, 0, 0}, {0, 30, 0, 0, 0}, {0, 0, -1, 0, 0},
            {0, 0, 3, 0, 0}, {0, 0, 0, -1, 0}, {0, 0, 0, 3, 0}, {0, 0, 0, 0, -1}, {0, 0, 0, 0, 2}, {LEAST, 0, 0, 0, 0},
            {MOST, 0, 0, 0, 0}, {0, LEAST, 0, 0, 0}, {0, MOST, 0, 0, 0}, {0, 0, LEAST, 0, 0}, {0, 0, MOST, 0, 0},
            {0, 0, 0, LEAST, 0}, {0, 0, 0, MOST, 0}, {0, 0, 0, 0, LEAST}, {0, 0, 0, 0, MOST}};
        RoadRiver x = Check.valley("000", FLOOD, FLOOD, FLOOD);
        for (int odds = 1; odds >= 0; odds--) {
            odds(x, odds, odds, odds);
            for (int[] w : wrong) {
                check.due("waits " + w[0] + " " + w[1] + " " + w[2] + " " + w[3] + " " + w[4] + ", odds " + odds,
                        x.waits(w[0], w[1], w[2], w[3], w[4]), -9223372036854775806L);
            }
        }
        check.due("NOT", x.waits(0, 0, 0, 2, 0), -9223372036854775805L);
        check.due("the last of all", x.waits(2, 29, 2, 2, 1), -9223372036854775805L);
        odds(x, 1, 1, 1);
        check.due("the last of all", x.waits(2, 29, 2, 2, 1), 1);
        check.due("no yards", new RoadRiver().waits(0, 0, 0, 0, 0), BAD_LONG);
    }

    private static void goesRefuses() {
        check.says("GO: 1, 0. BAD; NOT.");
        int[][] wrong = {{-1, 0, 0, 0}, {3, 0, 0, 0}, {0, -1, 0, 0}, {0, 30, 0, 0}, {0, 0, -1, 0}, {0, 0, 3, 0},
            {0, 0, 0, -1}, {0, 0, 0, 3}, {LEAST, 0, 0, 0}, {MOST, 0, 0, 0}, {0, LEAST, 0, 0}, {0, MOST, 0, 0},
            {0, 0, LEAST, 0}, {0, 0, MOST, 0}, {0, 0, 0, LEAST}, {0, 0, 0, MOST}};
        RoadRiver x = Check.valley("000", FLOOD, FLOOD, FLOOD);
        for (int odds = 1; odds >= 0; odds--) {
            odds(x, odds, odds, odds);
            for (int[] w : wrong) {
                check.due("goes " + w[0] + " " + w[1] + " " + w[2] + " " + w[3] + ", odds " + odds,
                        x.goes(w[0], w[1], w[2], w[3]), BAD);
            }
        }
        check.due("NOT", x.goes(2, 29, 2, 2), NOT);
        odds(x, 1, 1, 1);
        check.due("the last of all", x.goes(2, 29, 2, 2), 1);
        check.due("no yards", new RoadRiver().goes(0, 0, 0, 0), BAD);
    }

    private static void keeps(String what, RoadRiver x, int[] call, int... due) {
        for (int i = 0; i < 3; i++) {
            check.due(what + ", " + i, x.keep(call[0], call[1], call[2], call[3], call[4], i), due[i]);
            check.due(what + ", back, " + i, x.keep(call[0], call[1], call[3], call[2], call[4], i), due[i]);
        }
    }

    private static void keepForSevenDays() {
        check.says("the way has no WET YARD on the most of these 7 DAYS (up to DAY 29)");
        for (int day = 0; day < 30; day++) {
            RoadRiver x = Check.valley("00", FLOOD, "", "");
            int days = Math.min(7, 30 - day);
            keeps("from day " + day, x, new int[] {0, day, 1, 1, 1}, days, 1, 1);
            keeps("too few yards, from day " + day, x, new int[] {0, day, 0, 1, 1}, 0, 0, 0);
            keeps("a dry spring, from day " + day, x, new int[] {1, day, 0, 1, 1}, days, 0, 0);
        }
    }

    private static void keepOfUpToSoManyYards() {
        check.says("a DIKE more .. of up to so many YARDS (1 to 12), from a DAY on, on a way, in a SPRING");
        for (int yards = 1; yards <= 12; yards++) {
            RoadRiver x = Check.valley(LOW_ROAD, FLOOD);
            for (int last = 0; last < 12; last++) {
                boolean isEnough = yards > last;
                keeps(yards + " yards for a way to " + last, x, new int[] {0, 0, 0, last, yards},
                        isEnough ? 7 : 0, 0, isEnough ? last + 1 : 0);
            }
        }
        RoadRiver x = Check.valley(LOW_ROAD, FLOOD);
        keeps("the last yard", x, new int[] {0, 0, 11, 11, 1}, 7, 11, 1);
        keeps("the last two", x, new int[] {0, 0, 10, 11, 2}, 7, 10, 2);
        keeps("the last two, of one", x, new int[] {0, 0, 10, 11, 1}, 0, 0, 0);
    }

    private static void keepWithTheFewestYards() {
        check.says("of like ones with the fewest YARDS");
        String[] roads = {"099", "909", "990", "090", "009", "900", "000", "999"};
        int[][] due = {{7, 0, 1}, {7, 1, 1}, {7, 2, 1}, {7, 0, 3}, {7, 0, 2}, {7, 1, 2}, {7, 0, 3}, {7, 0, 0}};
        int[][] withTwo = {{7, 0, 1}, {7, 1, 1}, {7, 2, 1}, {0, 0, 0}, {7, 0, 2}, {7, 1, 2}, {0, 0, 0}, {7, 0, 0}};
        for (int n = 0; n < roads.length; n++) {
            RoadRiver x = Check.valley(roads[n], FLOOD);
            keeps(roads[n], x, new int[] {0, 0, 0, 2, 12}, due[n]);
            keeps(roads[n] + " with two", x, new int[] {0, 0, 0, 2, 2}, withTwo[n]);
        }
        // yard 1 is wet on all days, yards 0 and 2 on two and one of them
        RoadRiver x = Check.valley("425", "3335563");
        keeps("one yard keeps four", x, new int[] {0, 0, 0, 2, 1}, 4, 1, 1);
        keeps("two keep six", x, new int[] {0, 0, 0, 2, 2}, 6, 0, 2);
        keeps("three keep all", x, new int[] {0, 0, 0, 2, 3}, 7, 0, 3);
    }

    /** On the whole road, with low yards at two places (perhaps the same one). */
    private static void keepWhereTheLowYardsLie() {
        check.says("of like ones with the fewest YARDS");
        for (int first = 0; first < 12; first++) {
            for (int last = first; last < 12; last++) {
                RoadRiver x = Check.valley(roadWithLow(first, last), FLOOD);
                int many = last - first + 1;
                keeps("low " + first + " and " + last, x, new int[] {0, 0, 0, 11, 12}, 7, first, many);
                keeps("just enough for " + first + " and " + last, x, new int[] {0, 0, 0, 11, many}, 7, first, many);
                if (many > 1) {
                    keeps("too few for " + first + " and " + last, x, new int[] {0, 0, 0, 11, many - 1}, 0, 0, 0);
                }
            }
        }
    }

    private static String roadWithLow(int... yards) {
        StringBuilder road = new StringBuilder("9".repeat(12));
        for (int yard : yards) {
            road.setCharAt(yard, '0');
        }
        return road.toString();
    }

    private static void keepTheFirstOfLikeOnes() {
        check.says("of like ones the first");
        RoadRiver x = Check.valley("0909", FLOOD);
        x.dike(0, 0, 0);
        x.dike(2, 2, 7);
        keeps("yard 2 keeps days 3 to 6, yard 0 days 7 to 9", x, new int[] {0, 3, 0, 3, 1}, 4, 2, 1);
        keeps("yard 2 keeps days 4 to 6, yard 0 days 7 to 10", x, new int[] {0, 4, 0, 3, 1}, 4, 0, 1);
        x.set(1, 9);
        keeps("three days each, and day 10", x, new int[] {0, 4, 0, 3, 1}, 4, 0, 1);
        keeps("both, of three yards", x, new int[] {0, 4, 0, 3, 3}, 7, 0, 3);
        keeps("both, of more", x, new int[] {0, 4, 0, 3, 12}, 7, 0, 3);
        keeps("yard 2 is not on the way", x, new int[] {0, 4, 0, 1, 3}, 7, 0, 1);
    }

    /** One of two low yards is kept to day 6, the other one from day 7 on; George is on day 9. */
    private static void keepTheFirstOfAnyTwo() {
        check.says("of like ones the first");
        for (int first = 0; first < 12; first++) {
            for (int last = first + 1; last < 12; last++) {
                RoadRiver x = Check.valley(roadWithLow(first, last), FLOOD);
                x.set(1, 9);
                x.dike(first, first, 0);
                x.dike(last, last, 7);
                keeps("the first of " + first + " and " + last, x, new int[] {0, 4, 0, 11, 1}, 4, first, 1);
                x.breaks();
                x.breaks();
                x.dike(last, last, 0);
                x.dike(first, first, 7);
                keeps("the first of " + first + " and " + last, x, new int[] {0, 4, 0, 11, 1}, 4, first, 1);
                keeps("a day ahead the first is better", x, new int[] {0, 3, 0, 11, 1}, 4, first, 1);
                keeps("a day later the last is better", x, new int[] {0, 5, 0, 11, 1}, 5, last, 1);
            }
        }
    }

    private static void keepHoweverManyThereAre() {
        check.says("a DIKE more (how many there are does not matter)");
        RoadRiver x = Check.valley("000", FLOOD);
        for (int n = 0; n < 7; n++) {
            x.dike(11, 11, 29);
        }
        keeps("seven are there", x, new int[] {0, 0, 0, 2, 3}, 7, 0, 3);
        x.dike(0, 0, 0);
        keeps("eight are there, one keeps yard 0", x, new int[] {0, 0, 0, 2, 3}, 7, 1, 2);
        keeps("it keeps to day 6", x, new int[] {0, 1, 0, 2, 2}, 6, 1, 2);
        check.due("none comes", x.count(4), 8);
        check.due("all are as they were", x.water(0, 0, 0), 6);
    }

    private static void keepNone() {
        check.says("how many YARDS (0: none, and 0 is the first YARD)");
        RoadRiver x = Check.valley("9900", "333", FLOOD);
        keeps("a dry way", x, new int[] {0, 0, 0, 1, 12}, 7, 0, 0);
        keeps("dry days", x, new int[] {0, 3, 2, 3, 12}, 7, 0, 0);
        keeps("a dry last day", x, new int[] {0, 29, 3, 3, 1}, 1, 0, 0);
        keeps("no dike is enough, four days are dry", x, new int[] {0, 0, 2, 3, 1}, 4, 0, 0);
        keeps("no dike is enough, none is dry", x, new int[] {1, 0, 2, 3, 1}, 0, 0, 0);
        keeps("one is enough", x, new int[] {1, 0, 2, 3, 2}, 7, 2, 2);
    }

    private static void keepOnDaysThatAreNotLent() {
        check.says("the one with which the way has no WET YARD on the most of these 7 DAYS");
        RoadRiver x = Check.valley("00", "88888888888888888888", "8899");
        x.set(0, 9);
        keeps("no possession", x, new int[] {0, 0, 0, 1, 1}, 7, 0, 0);
        keeps("two days wet", x, new int[] {1, 0, 0, 1, 1}, 5, 0, 0);
        keeps("two days wet, two yards", x, new int[] {1, 0, 0, 1, 2}, 7, 0, 2);
        x.set(1, 2);
        keeps("one day wet, then George", x, new int[] {1, 0, 0, 1, 1}, 6, 0, 0);
        x.odds(1, 0);
        keeps("odds are not asked for", x, new int[] {1, 0, 0, 1, 2}, 7, 0, 2);
    }

    private static void keepRefuses() {
        check.says("KEEP: DAYS (what = 0), the first YARD (1), how many YARDS (2). BAD (yards 1 to 12).");
        RoadRiver x = Check.valley("000", FLOOD, FLOOD, FLOOD);
        int[] good = {2, 23, 2, 2, 12, 2};
        int[][] wrong = {{-1, 3, LEAST, MOST}, {-1, 30, LEAST, MOST}, {-1, 3, LEAST, MOST}, {-1, 3, LEAST, MOST},
            {-1, 0, 13, LEAST, MOST}, {-1, 3, LEAST, MOST}};
        check.due("the last of all", x.keep(2, 29, 2, 2, 12, 2), 1);
        check.due("the first of all", x.keep(0, 0, 0, 0, 1, 0), 7);
        for (int i = 0; i < good.length; i++) {
            for (int v : wrong[i]) {
                int[] w = good.clone();
                w[i] = v;
                check.due("argument " + i + " is " + v, x.keep(w[0], w[1], w[2], w[3], w[4], w[5]), BAD);
            }
        }
        check.due("no yards", new RoadRiver().keep(0, 0, 0, 0, 1, 0), BAD);
    }
}
