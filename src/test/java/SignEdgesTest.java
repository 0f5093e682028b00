/** Promises 26 to 29, and what is said of watching and of facts: each sentence with a boundary. */
public final class SignEdgesTest {
    private static final int BAD = RoadRiver.BAD;
    private static final int FULL = RoadRiver.FULL;
    private static final int LEAST = Integer.MIN_VALUE;
    private static final int MOST = Integer.MAX_VALUE;
    private static final String FLOOD = "9".repeat(30);

    private static final Check check = new Check();

    public static void main(String[] args) {
        theFirstDayOfTheMostKinds();
        everyDayMayBeWatched();
        springsWithOddsAlone();
        levelsBehindTheLastAreKinds();
        factsEightAtMost();
        factRefuses();
        forgetsAll();
        wetOrDry();
        allFactsComeOut();
        springsWithoutFigures();
        factsOfYardsThatAreThere();
        check.end();
    }

    private static void odds(RoadRiver x, int... v) {
        for (int spring = 0; spring < v.length; spring++) {
            x.odds(spring, v[spring]);
        }
    }

    private static void theFirstDayOfTheMostKinds() {
        check.says("WATCH: of DAYS the first on which the LEVELS of SPRINGS with ODDS above 0 are of the most kinds");
        check.due("nothing told", new RoadRiver().watch(), 0);
        String[][] springs = {{"1", "1", "1"}, {"11", "12", "11"}, {"111", "121", "113"}, {"1212", "1313", "1414"},
            {"01", "00", "02"}, {"1", "2", "3"}, {"111111", "121212", "121213"}};
        int[] due = {0, 1, 1, 1, 1, 0, 5};
        for (int n = 0; n < springs.length; n++) {
            check.due("springs " + String.join(" ", springs[n]), Check.valley("", springs[n]).watch(), due[n]);
        }
    }

    private static void everyDayMayBeWatched() {
        check.says("WATCH: of DAYS the first on which ..");
        for (int day = 0; day < 30; day++) {
            RoadRiver x = Check.valley("", "5".repeat(day) + "6", "5".repeat(day) + "7" + "0".repeat(29 - day),
                    "5".repeat(day) + "6");
            check.due("two kinds on day " + day, x.watch(), day);
            x.undo(2);
            x.type(2, '8');
            check.due("three kinds on day " + day, x.watch(), day);
        }
    }

    private static void springsWithOddsAlone() {
        check.says("the LEVELS of SPRINGS with ODDS above 0");
        RoadRiver x = Check.valley("", "0010", "0101", "0101");
        check.due("all", x.watch(), 1);
        odds(x, 0, 1, 1);
        check.due("alike", x.watch(), 0);
        odds(x, 1, 0, 1);
        check.due("odds 1", x.watch(), 1);
        Check.retype(x, 2, "0012");
        check.due("later", x.watch(), 3);
        odds(x, 1, 99, 1);
        check.due("odds 99: three kinds", x.watch(), 3);
        odds(x, 1, 1, 0);
        check.due("two kinds, earlier", x.watch(), 1);
        odds(x, 0, 0, 1);
        check.due("one", x.watch(), 0);
        odds(x, 0, 0, 0);
        check.due("none", x.watch(), 0);
    }

    private static void levelsBehindTheLastAreKinds() {
        check.says("behind the last one told of a SPRING its LEVEL is 0");
        RoadRiver x = Check.valley("", "555", "5555", "5551");
        check.due("0, 5 and 1", x.watch(), 3);
        x.undo(2);
        check.due("0 and 5", x.watch(), 3);
        x.type(0, 'x');
        check.due("a fault: 0 and 5", x.watch(), 0);
    }

    private static void factsEightAtMost() {
        check.says("FACTS, 8 at most");
        RoadRiver x = Check.valley("0".repeat(12), FLOOD);
        for (int n = 1; n <= 8; n++) {
            check.due("fact " + n, x.fact(n, n, 1), n);
            check.due("how many", x.count(6), n);
            check.due("all of them come out", x.fit(), 1);
        }
        check.due("fact 9", x.fact(0, 0, 0), FULL);
        check.due("how many", x.count(6), 8);
        check.due("it did not come", x.fit(), 1);
        check.due("BAD ahead of FULL", x.fact(30, 0, 0), BAD);
        check.due("forgotten", x.forget(), 8);
        check.due("room again", x.fact(0, 0, 0), 1);
        check.due("it came", x.fit(), 6);
    }

    private static void factRefuses() {
        check.says("A FACT more (YARD 0 to 11): how many. BAD; FULL.");
        RoadRiver x = Check.valley("0", FLOOD);
        int[] good = {29, 11, 1};
        int[][] wrong = {{-1, 30, LEAST, MOST}, {-1, 12, LEAST, MOST}, {-1, 2, LEAST, MOST}};
        for (int full = 0; full < 2; full++) {
            for (int i = 0; i < good.length; i++) {
                for (int v : wrong[i]) {
                    int[] w = good.clone();
                    w[i] = v;
                    check.due("argument " + i + " is " + v, x.fact(w[0], w[1], w[2]), BAD);
                }
            }
            check.due("how many", x.count(6), full * 8);
            for (int n = 0; n < 8; n++) {
                x.fact(29, 11, 1);
            }
        }
        check.due("forgotten", x.forget(), 8);
        check.due("the first of all", x.fact(0, 0, 0), 1);
        check.due("the last of all", x.fact(29, 11, 1), 2);
    }

    private static void forgetsAll() {
        check.says("All FACTS are forgotten: how many.");
        RoadRiver x = Check.valley("0", "9");
        for (int many = 0; many <= 8; many++) {
            for (int n = 0; n < many; n++) {
                x.fact(0, 0, n & 1);
            }
            check.due("fit with " + many, x.fit(), many == 0 ? 7 : many == 1 ? 6 : 0);
            check.due("how many", x.forget(), many);
            check.due("none", x.count(6), 0);
            check.due("all fit", x.fit(), 7);
        }
    }

    private static void wetOrDry() {
        check.says("on a DAY a YARD was WET (1), or dry (0): FIT: SPRINGS by which all FACTS .. come out so, as bits");
        RoadRiver x = Check.valley("0".repeat(12), FLOOD, "0".repeat(29) + "9", "9");
        int[][] rows = {{0, 0, 1, 5}, {0, 0, 0, 2}, {29, 11, 1, 3}, {29, 11, 0, 4}, {28, 11, 1, 1}, {28, 11, 0, 6},
            {1, 5, 1, 1}, {1, 5, 0, 6}};
        for (int[] row : rows) {
            x.forget();
            x.fact(row[0], row[1], row[2]);
            check.due("day " + row[0] + ", yard " + row[1] + " was " + row[2], x.fit(), row[3]);
        }
        x.dike(11, 11, 28);
        x.forget();
        x.fact(29, 11, 0);
        check.due("a dike keeps it dry", x.fit(), 7);
        x.odds(0, 0);
        check.due("odds are not asked for", x.fit(), 7);
    }

    private static void allFactsComeOut() {
        check.says("by which all FACTS .. come out so");
        RoadRiver x = Check.valley("00", "999", "99", "9");
        x.fact(0, 0, 1);
        check.due("one", x.fit(), 7);
        x.fact(1, 0, 1);
        check.due("two", x.fit(), 3);
        x.fact(2, 1, 0);
        check.due("three", x.fit(), 2);
        x.fact(2, 1, 0);
        check.due("one of them twice", x.fit(), 2);
        x.fact(2, 1, 1);
        check.due("one against another", x.fit(), 0);
    }

    private static void springsWithoutFigures() {
        check.says("SPRINGS (those without figures, too)");
        RoadRiver x = Check.valley("0", "9", "", "9x");
        check.due("no facts", x.fit(), 7);
        x.fact(0, 0, 0);
        check.due("dry", x.fit(), 6);
        x.fact(0, 0, 1);
        check.due("dry and wet", x.fit(), 0);
        check.due("no facts, no road, no springs", new RoadRiver().fit(), 7);
    }

    private static void factsOfYardsThatAreThere() {
        check.says("all FACTS of YARDS that are there");
        RoadRiver x = Check.valley("", FLOOD, FLOOD, FLOOD);
        x.fact(0, 11, 0);
        for (int yards = 0; yards < 12; yards++) {
            check.due("yards " + yards, x.fit(), 7);
            x.type(3, '0');
        }
        check.due("yard 11 is there", x.fit(), 0);
        x.undo(3);
        check.due("it is not any more", x.fit(), 7);
        x.type(3, 'x');
        check.due("a fault: no yards", x.fit(), 7);
        x.forget();
        x.fact(0, 0, 0);
        check.due("a fault: no yards", x.fit(), 7);
        x.undo(3);
        check.due("yard 0 is there", x.fit(), 0);
        check.due("the fact stays", x.count(6), 1);
        for (int yards = 0; yards < 12; yards++) {
            for (int is = 0; is < 2; is++) {
                RoadRiver y = Check.valley("0".repeat(yards), FLOOD, "", "");
                y.fact(0, yards, is);
                check.due("the first yard that is not there", y.fit(), 7);
                y.type(3, '0');
                check.due("it is there", y.fit(), is == 1 ? 1 : 6);
            }
        }
    }
}
