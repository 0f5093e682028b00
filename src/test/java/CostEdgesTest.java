/** Promises 16 to 18, and what is said of cost, gravel and the deed's worth: each sentence with a boundary. */
public final class CostEdgesTest {
    private static final int BAD = RoadRiver.BAD;
    private static final int LEAST = Integer.MIN_VALUE;
    private static final int MOST = Integer.MAX_VALUE;
    private static final String FLOOD = "9".repeat(30);
    private static final String LOW_ROAD = "0".repeat(12);

    private static final Check check = new Check();

    public static void main(String[] args) {
        bothYardsAreInTheWay();
        whicheverIsAhead();
        oneForEachDryYard();
        aFerryForEachRow();
        rowsOfTheWayAlone();
        theRidgeForEachYard();
        theLesserOne();
        costRefuses();
        closedDays();
        closedRefuses();
        gravel();
        worth();
        deedRefuses();
        check.end();
    }

    private static void costs(String what, RoadRiver x, int from, int to, int lesser, int road, int ridge) {
        check.due(what + ", the lesser", x.cost(0, 0, from, to, 0), lesser);
        check.due(what + ", by the road", x.cost(0, 0, from, to, 1), road);
        check.due(what + ", by the ridge", x.cost(0, 0, from, to, 2), ridge);
    }

    private static void bothYardsAreInTheWay() {
        check.says("COST of a way from a YARD to another one (both in it, whichever is ahead)");
        RoadRiver x = Check.valley("9999", "0");
        costs("one yard", x, 0, 0, 1, 1, 3);
        costs("two yards", x, 0, 1, 2, 2, 6);
        costs("all", x, 0, 3, 4, 4, 12);
        costs("the last one", x, 3, 3, 1, 1, 3);
        RoadRiver y = Check.valley("099", "9");
        costs("the first one is wet", y, 0, 1, 6, 6, 6);
        costs("the last one is wet", y, 1, 0, 6, 6, 6);
        costs("the wet one alone", y, 0, 0, 3, 5, 3);
    }

    private static void whicheverIsAhead() {
        check.says("COST of a way from a YARD to another one (both in it, whichever is ahead)");
        String road = "090099000999";
        for (int from = 0; from < 12; from++) {
            RoadRiver x = Check.valley(road, "5");
            for (int to = 0; to < 12; to++) {
                for (int what = 0; what < 3; what++) {
                    check.due("back " + from + " " + to, x.cost(0, 0, from, to, what), x.cost(0, 0, to, from, what));
                }
            }
        }
        RoadRiver x = Check.valley(road, "5");
        costs("forth", x, 0, 11, 21, 3 * 5 + 6, 36);
        costs("back", x, 11, 0, 21, 3 * 5 + 6, 36);
    }

    private static void oneForEachDryYard() {
        check.says("by the road 1 for each dry YARD");
        for (int yards = 1; yards <= 12; yards++) {
            RoadRiver x = Check.valley("9".repeat(yards), "9");
            costs(yards + " dry yards", x, 0, yards - 1, yards, yards, 3 * yards);
            x.set(2, 0);
            costs("whatever the ferry is", x, 0, yards - 1, yards, yards, 3 * yards);
        }
    }

    private static void aFerryForEachRow() {
        check.says("FERRY (0 to 99; 5 at first) for each row of WET ones that lie side by side in it");
        for (int yards = 1; yards <= 12; yards++) {
            RoadRiver x = Check.valley("0".repeat(yards), "1");
            x.set(0, 1);
            check.due(yards + " wet yards", x.cost(0, 0, 0, yards - 1, 1), 5);
            x.set(2, 0);
            check.due("ferry 0", x.cost(0, 0, 0, yards - 1, 1), 0);
            check.due("ferry 0 is the lesser", x.cost(0, 0, yards - 1, 0, 0), 0);
            x.set(2, 99);
            check.due("ferry 99", x.cost(0, 0, 0, yards - 1, 1), 99);
        }
        RoadRiver x = Check.valley("090909090909", "5");
        check.due("six rows", x.cost(0, 0, 0, 11, 1), 6 * 5 + 6);
        x.set(2, 99);
        check.due("six rows, ferry 99", x.cost(0, 0, 0, 11, 1), 600);
        x.dike(2, 2, 0);
        check.due("a dike makes one less", x.cost(0, 0, 0, 11, 1), 502);
        RoadRiver y = Check.valley("00900", "5");
        check.due("two rows", y.cost(0, 0, 0, 4, 1), 11);
        y.dike(1, 1, 0);
        check.due("a shorter row is a row", y.cost(0, 0, 0, 4, 1), 12);
        y.dike(0, 0, 0);
        check.due("one row", y.cost(0, 0, 0, 4, 1), 8);
    }

    private static void rowsOfTheWayAlone() {
        check.says("FERRY (0 to 99; 5 at first) for each row of WET ones that lie side by side in it");
        RoadRiver x = Check.valley("000900", "5");
        check.due("from amid a row", x.cost(0, 0, 1, 3, 1), 6);
        check.due("from amid a row to another one", x.cost(0, 0, 2, 4, 1), 11);
        check.due("amid a row", x.cost(0, 0, 1, 1, 1), 5);
        check.due("behind all rows", x.cost(0, 0, 3, 3, 1), 1);
    }

    private static void theRidgeForEachYard() {
        check.says("by the ridge RIDGE (1 to 9; 3 at first) for each YARD");
        RoadRiver x = Check.valley(LOW_ROAD, "9");
        for (int last = 0; last < 12; last++) {
            x.set(3, 3);
            check.due("ridge 3", x.cost(0, 0, 0, last, 2), 3 * (last + 1));
            x.set(3, 1);
            check.due("ridge 1", x.cost(0, 0, last, 0, 2), last + 1);
            x.set(3, 9);
            check.due("ridge 9", x.cost(0, 0, 0, last, 2), 9 * (last + 1));
            check.due("on a dry day", x.cost(0, 1, 0, last, 2), 9 * (last + 1));
        }
    }

    private static void theLesserOne() {
        check.says("by the ridge RIDGE (1 to 9; 3 at first) for each YARD: the lesser one");
        RoadRiver x = Check.valley("00", "5");
        x.set(2, 6);
        costs("like ones", x, 0, 1, 6, 6, 6);
        x.set(2, 7);
        costs("the ridge", x, 0, 1, 6, 7, 6);
        x.set(2, 5);
        costs("the ferry", x, 0, 1, 5, 5, 6);
        x.set(2, 99);
        x.set(3, 9);
        costs("both at their most", x, 0, 1, 18, 99, 18);
        x.set(3, 1);
        check.due("dry, ridge 1: like ones", x.cost(0, 1, 0, 1, 0), 2);
    }

    private static void costRefuses() {
        check.says("COST: the lesser (what = 0), by the road (1), by the ridge (2). BAD.");
        RoadRiver x = Check.valley("000", FLOOD, FLOOD, FLOOD);
        int[][] good = {{0, 0, 0, 0}, {2, 0, 0, 0}, {0, 29, 0, 0}, {0, 0, 2, 2}};
        for (int[] g : good) {
            check.due("by the road", x.cost(g[0], g[1], g[2], g[3], 1), 5);
            check.due("by the ridge", x.cost(g[0], g[1], g[2], g[3], 2), 3);
        }
        int[][] wrong = {{-1, 0, 0, 0, 0}, {3, 0, 0, 0, 0}, {0, -1, 0, 0, 0}, {0, 30, 0, 0, 0}, {0, 0, -1, 0, 0},
            {0, 0, 3, 0, 0}, {0, 0, 0, -1, 0}, {0, 0, 0, 3, 0}, {0, 0, 0, 0, -1}, {0, 0, 0, 0, 3}, {LEAST, 0, 0, 0, 0},
            {MOST, 0, 0, 0, 0}, {0, LEAST, 0, 0, 0}, {0, MOST, 0, 0, 0}, {0, 0, LEAST, 0, 0}, {0, 0, MOST, 0, 0},
            {0, 0, 0, LEAST, 0}, {0, 0, 0, MOST, 0}, {0, 0, 0, 0, LEAST}, {0, 0, 0, 0, MOST}, {0, 0, 11, 11, 2}};
        for (int[] w : wrong) {
            check.due("cost " + w[0] + " " + w[1] + " " + w[2] + " " + w[3] + " " + w[4],
                    x.cost(w[0], w[1], w[2], w[3], w[4]), BAD);
        }
        RoadRiver y = Check.valley("", FLOOD);
        check.due("no yards", y.cost(0, 0, 0, 0, 0), BAD);
    }

    private static void closedDays() {
        check.says("CLOSED: on how many DAYS of a SPRING a YARD is WET");
        for (int days = 0; days <= 30; days++) {
            RoadRiver x = Check.valley("09", "5".repeat(days));
            check.due(days + " days", x.closed(0, 0), days);
            check.due("a high yard", x.closed(0, 1), 0);
        }
        RoadRiver x = Check.valley(LOW_ROAD, "0".repeat(29) + "3");
        check.due("the last day, the last yard", x.closed(0, 11), 1);
        x.dike(11, 11, 29);
        check.due("a dike", x.closed(0, 11), 0);
        check.due("beside it", x.closed(0, 10), 1);
        check.due("another spring", x.closed(1, 10), 0);
    }

    private static void closedRefuses() {
        check.says("CLOSED. BAD.");
        RoadRiver x = Check.valley("000", "9", "99", "999");
        for (int spring = 0; spring < 3; spring++) {
            check.due("spring " + spring, x.closed(spring, 2), spring + 1);
        }
        int[][] wrong = {{-1, 0}, {3, 0}, {LEAST, 0}, {MOST, 0}, {0, -1}, {0, 3}, {0, 11}, {0, LEAST}, {0, MOST}};
        for (int[] w : wrong) {
            check.due("closed " + w[0] + " " + w[1], x.closed(w[0], w[1]), BAD);
        }
    }

    private static void gravel() {
        check.says("GRAVEL: that of all YARDS together");
        RoadRiver x = Check.valley(LOW_ROAD, FLOOD, "1", "");
        check.due("all yards, all days", x.deed(0, 0), 360);
        check.due("all days", x.deed(0, 1), 30);
        check.due("not lent", x.deed(1, 0), 0);
        check.due("not lent", x.deed(1, 1), 0);
        check.due("no figures", x.deed(2, 0), 0);
        check.due("no figures", x.deed(2, 1), 0);
        x.dike(0, 11, 0);
        check.due("a week of dikes", x.deed(0, 0), 360 - 84);
        check.due("a week of dikes", x.deed(0, 1), 23);
        x.breaks();
        x.dike(0, 10, 0);
        check.due("one yard open", x.deed(0, 0), 360 - 77);
        check.due("some yard is wet each day", x.deed(0, 1), 30);
    }

    private static void worth() {
        check.says("DEED'S WORTH: PRICE (0 to 99; 1 at first) for each of these, less LOSS (0 to 99; 4 at first) for "
                + "each DAY on which some YARD is WET");
        RoadRiver x = Check.valley(LOW_ROAD, FLOOD, "3", "");
        check.due("at first", x.deed(0, 2), 360 - 120);
        check.due("one day", x.deed(1, 2), 12 - 4);
        check.due("no day", x.deed(2, 2), 0);
        x.set(5, 0);
        x.set(4, 99);
        check.due("the most", x.deed(0, 2), 35640);
        x.set(4, 0);
        check.due("neither", x.deed(0, 2), 0);
        x.set(5, 99);
        check.due("the least", x.deed(0, 2), -2970);
        check.due("below 0", x.deed(1, 2), -99);
        x.set(4, 99);
        check.due("both at their most", x.deed(0, 2), 35640 - 2970);
        x.wipe(3);
        check.due("no yards", x.deed(0, 2), 0);
    }

    private static void deedRefuses() {
        check.says("as any number. BAD: -100002; where any number is told, it is -100000 less x");
        RoadRiver x = Check.valley("0", "9", "9", "9");
        for (int spring = 0; spring < 3; spring++) {
            check.due("gravel", x.deed(spring, 0), 1);
            check.due("worth", x.deed(spring, 2), -3);
        }
        int[][] wrong = {{-1, 0}, {3, 0}, {LEAST, 0}, {MOST, 0}, {0, -1}, {0, 3}, {0, LEAST}, {0, MOST}, {3, 3}};
        for (int[] w : wrong) {
            check.due("deed " + w[0] + " " + w[1], x.deed(w[0], w[1]), -100002);
        }
    }
}
