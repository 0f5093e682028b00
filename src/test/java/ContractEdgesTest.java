/** Promises 22 to 25, and what is said of contracts and sets that never lose: each sentence with a boundary. */
public final class ContractEdgesTest {
    private static final int BAD = RoadRiver.BAD;
    private static final int LEAST = Integer.MIN_VALUE;
    private static final int MOST = Integer.MAX_VALUE;

    private static final Check check = new Check();

    public static void main(String[] args) {
        contractsZeroToSeven();
        aContractIsChanged();
        paysOnTheDayOrAhead();
        paysNothingWithoutPossession();
        amountsToNinetyNine();
        contractRefuses();
        tearsRefuses();
        zeroOrMore();
        springsWithOddsAlone();
        everySetCounts();
        onlySetsThatAreThere();
        greatestMeanAndLeastBits();
        meansByOdds();
        noOddsAtAll();
        neverRefuses();
        gainRefuses();
        check.end();
    }

    private static void never(String what, RoadRiver x, int sets, int bits, long above, long below) {
        check.due(what + ", how many", x.never(0), sets);
        check.due(what + ", the set", x.never(1), bits);
        check.due(what + ", above", x.gain(0), above);
        check.due(what + ", below", x.gain(1), below);
    }

    private static void odds(RoadRiver x, int... v) {
        for (int spring = 0; spring < v.length; spring++) {
            x.odds(spring, v[spring]);
        }
    }

    private static void contractsZeroToSeven() {
        check.says("CONTRACTS 0 to 7 (none at first)");
        RoadRiver x = new RoadRiver();
        check.due("none at first", x.count(5), 0);
        for (int contract = 0; contract < 8; contract++) {
            check.due("it was not there", x.contract(contract, 0, 1, 0), 0);
            check.due("it was", x.contract(contract, 0, 1, 0), 1);
            check.due("how many", x.count(5), contract + 1);
        }
        check.due("no contract 8", x.contract(8, 0, 1, 0), BAD);
        for (int contract = 7; contract >= 0; contract--) {
            check.due("torn", x.tears(contract), 1);
            check.due("torn already", x.tears(contract), 0);
            check.due("how many", x.count(5), contract);
        }
    }

    private static void aContractIsChanged() {
        check.says("A CONTRACT is so (it PAYS by a DAY): 1, if it was there, else 0. BAD.");
        RoadRiver x = Check.valley("", "003");
        odds(x, 1, 0, 0);
        x.contract(4, 2, 9, 4);
        never("new", x, 2, 16, 5, 1);
        x.contract(4, 2, 9, 3);
        never("it costs less", x, 2, 16, 6, 1);
        x.contract(4, 2, 8, 3);
        never("it pays less", x, 2, 16, 5, 1);
        x.contract(4, 1, 8, 3);
        never("it pays for a day ahead", x, 1, 0, 0, 1);
        check.due("one contract", x.count(5), 1);
        x.tears(4);
        check.due("torn: not there", x.contract(4, 29, 1, 0), 0);
        never("nothing of before is left", x, 2, 16, 1, 1);
    }

    private static void paysOnTheDayOrAhead() {
        check.says("one PAYS an amount (0 to 99), if POSSESSION is on a told DAY or ahead of it");
        for (int possession = 0; possession < 30; possession += possession == 1 ? 13 : 1) {
            RoadRiver x = Check.valley("", "0".repeat(possession) + "3");
            odds(x, 1, 0, 0);
            for (int day = 0; day < 30; day++) {
                x.contract(0, day, 5, 0);
                check.due("possession " + possession + ", by day " + day, x.gain(0), possession <= day ? 5 : 0);
            }
        }
        RoadRiver x = Check.valley("", "0".repeat(29) + "9");
        odds(x, 1, 0, 0);
        x.contract(0, 29, 5, 5);
        check.due("on the last day", x.never(0), 2);
        x.contract(0, 28, 5, 5);
        check.due("a day ahead", x.never(0), 1);
    }

    private static void paysNothingWithoutPossession() {
        check.says("one PAYS an amount (0 to 99), if POSSESSION is on a told DAY or ahead of it, and COSTS another one "
                + "(0 to 99) always");
        RoadRiver x = Check.valley("", "222", "0003");
        odds(x, 1, 0, 0);
        x.contract(0, 29, 99, 1);
        never("no possession: it costs", x, 1, 0, 0, 1);
        x.contract(0, 29, 99, 0);
        never("no possession, no costs: it brings 0", x, 2, 0, 0, 1);
        x.set(0, 2);
        never("a lower thaw", x, 2, 1, 99, 1);
        odds(x, 0, 1, 0);
        never("another spring", x, 2, 1, 99, 1);
        x.set(1, 2);
        never("George comes first", x, 2, 0, 0, 1);
    }

    private static void amountsToNinetyNine() {
        check.says("one PAYS an amount (0 to 99) .. and COSTS another one (0 to 99) always");
        RoadRiver x = Check.valley("", "9", "9", "9");
        for (int contract = 0; contract < 8; contract++) {
            x.contract(contract, 0, 99, 0);
        }
        never("the most", x, 256, 255, 792, 1);
        odds(x, 99, 99, 99);
        never("the most, of the most odds", x, 256, 255, 792, 1);
        for (int contract = 0; contract < 8; contract++) {
            x.contract(contract, 0, 0, 99);
        }
        never("the least", x, 1, 0, 0, 1);
        for (int contract = 0; contract < 8; contract++) {
            x.contract(contract, 0, 99, 99);
        }
        never("as much", x, 256, 0, 0, 1);
        for (int contract = 0; contract < 8; contract++) {
            x.contract(contract, 0, 0, 0);
        }
        never("nothing", x, 256, 0, 0, 1);
    }

    private static void contractRefuses() {
        check.says("A CONTRACT is so (it PAYS by a DAY): 1, if it was there, else 0. BAD.");
        RoadRiver x = Check.valley("", "9", "9", "9");
        int[] good = {7, 29, 99, 98};
        int[][] wrong = {{-1, 8, LEAST, MOST, 39}, {-1, 30, LEAST, MOST}, {-1, 100, LEAST, MOST},
            {-1, 100, LEAST, MOST}};
        for (int there = 0; there < 2; there++) {
            for (int i = 0; i < good.length; i++) {
                for (int v : wrong[i]) {
                    int[] w = good.clone();
                    w[i] = v;
                    check.due("argument " + i + " is " + v, x.contract(w[0], w[1], w[2], w[3]), BAD);
                }
            }
            check.due("how many", x.count(5), there);
            never("as it was", x, there + 1, there * 128, there, 1);
            check.due("good", x.contract(7, 29, 99, 98), there);
        }
        check.due("the first of all", x.contract(0, 0, 0, 0), 0);
    }

    private static void tearsRefuses() {
        check.says("A CONTRACT is not there any more: 1, if it was, else 0. BAD.");
        RoadRiver x = Check.valley("", "9", "9", "9");
        x.contract(0, 0, 5, 0);
        x.contract(7, 0, 5, 0);
        int[] wrong = {-1, 8, LEAST, MOST, 32, 39};
        for (int contract : wrong) {
            check.due("contract " + contract, x.tears(contract), BAD);
        }
        check.due("how many", x.count(5), 2);
        check.due("not there", x.tears(1), 0);
        never("both", x, 4, 129, 10, 1);
        check.due("the first", x.tears(0), 1);
        never("the other one", x, 2, 128, 5, 1);
        check.due("the last", x.tears(7), 1);
        never("none", x, 1, 0, 0, 1);
    }

    private static void zeroOrMore() {
        check.says("sets of CONTRACTS that are there (bits) which bring 0 or more in each SPRING with ODDS above 0");
        RoadRiver x = Check.valley("", "3", "03", "");
        odds(x, 1, 1, 0);
        x.contract(0, 0, 90, 10);
        x.contract(1, 1, 9, 0);
        never("one short of 0 in spring 1", x, 2, 2, 9, 1);
        x.contract(1, 1, 10, 0);
        never("0 in spring 1", x, 3, 3, 45, 1);
        x.contract(1, 1, 11, 0);
        never("1 in spring 1", x, 3, 3, 46, 1);
        x.contract(2, 0, 0, 1);
        // {}, {1}, {0, 1}, {1, 2}, and {0, 1, 2}, which brings 90 and 0
        never("one that costs alone", x, 5, 3, 46, 1);
    }

    private static void springsWithOddsAlone() {
        check.says("in each SPRING with ODDS above 0");
        RoadRiver x = Check.valley("", "3", "", "");
        x.contract(3, 0, 99, 1);
        odds(x, 99, 1, 0);
        never("odds 1 are above 0", x, 1, 0, 0, 1);
        odds(x, 99, 0, 1);
        never("odds 1 of the last spring", x, 1, 0, 0, 1);
        odds(x, 1, 0, 0);
        never("odds 0 are not asked", x, 2, 8, 98, 1);
        odds(x, 0, 1, 1);
        never("it pays in a spring that is not asked", x, 1, 0, 0, 1);
    }

    private static void everySetCounts() {
        check.says("NEVER LOSE: sets of CONTRACTS that are there (bits) which bring 0 or more .. : how many");
        RoadRiver x = Check.valley("", "9", "9", "9");
        never("no contracts: the set of none", x, 1, 0, 0, 1);
        for (int n = 0; n < 8; n++) {
            x.contract(7 - n, 0, 1, 0);
            never(n + 1 + " contracts", x, 2 << n, 256 - (128 >> n), n + 1, 1);
        }
    }

    private static void onlySetsThatAreThere() {
        check.says("sets of CONTRACTS that are there (bits)");
        RoadRiver x = Check.valley("", "9", "9", "9");
        for (int contract = 0; contract < 8; contract++) {
            x.contract(contract, 0, 1 << Math.min(contract, 6), 0);
        }
        check.due("all", x.never(1), 255);
        for (int contract = 0; contract < 8; contract++) {
            x.tears(contract);
            check.due("without " + contract, x.never(1), 255 - (1 << contract));
            check.due("without " + contract, x.never(0), 128);
            check.due("without " + contract, x.gain(0), 191 - (1 << Math.min(contract, 6)));
            x.contract(contract, 0, 1 << Math.min(contract, 6), 0);
        }
        x.tears(0);
        x.tears(7);
        never("without two", x, 64, 126, 126, 1);
    }

    private static void greatestMeanAndLeastBits() {
        check.says("the one with the greatest mean by ODDS, of like ones the least bits");
        RoadRiver x = Check.valley("", "9", "9", "9");
        x.contract(5, 0, 7, 7);
        x.contract(2, 0, 3, 3);
        never("all bring 0: the set of none", x, 4, 0, 0, 1);
        x.contract(1, 0, 4, 2);
        never("one brings 2", x, 8, 2, 2, 1);
        x.contract(0, 0, 2, 3);
        never("one loses, within what the other brings", x, 12, 2, 2, 1);
        // 6 and 7 bring as much as one another, but only one of them is covered
        RoadRiver y = Check.valley("", "3", "03", "");
        odds(y, 1, 1, 0);
        y.contract(6, 0, 30, 10);
        y.contract(7, 0, 30, 10);
        y.contract(0, 29, 15, 0);
        never("of like ones the least bits", y, 4, 65, 20, 1);
        y.contract(7, 0, 31, 10);
        never("a little more", y, 4, 129, 41, 2);
    }

    private static void meansByOdds() {
        check.says("that mean, as a FRACTION; FRACTIONS are told in lowest terms, above and below (0 by 1)");
        RoadRiver x = Check.valley("", "3", "03", "003");
        x.contract(0, 0, 50, 0);
        x.contract(1, 1, 20, 0);
        x.contract(2, 2, 8, 0);
        // 78 in spring 0, 28 in spring 1, 8 in spring 2
        int[][] rows = {{1, 1, 1, 38, 1}, {99, 99, 99, 38, 1}, {1, 2, 3, 79, 3}, {2, 1, 0, 184, 3}, {0, 0, 99, 8, 1},
            {99, 98, 97, 803, 21}, {1, 1, 97, 98, 11}, {0, 1, 99, 41, 5}};
        for (int[] row : rows) {
            odds(x, row[0], row[1], row[2]);
            never("odds " + row[0] + " " + row[1] + " " + row[2], x, 8, row[0] > 0 ? 7 : row[1] > 0 ? 6 : 4, row[3], row[4]);
        }
    }

    private static void noOddsAtAll() {
        check.says("that mean, as a FRACTION (0 by 1, if all ODDS are 0)");
        RoadRiver x = Check.valley("", "3", "3", "3");
        odds(x, 0, 0, 0);
        never("no contracts", x, 1, 0, 0, 1);
        x.contract(0, 0, 99, 0);
        x.contract(4, 0, 0, 99);
        never("all sets never lose, none brings more", x, 4, 0, 0, 1);
    }

    private static void neverRefuses() {
        check.says("NEVER LOSE: how many (what = 0), the set as bits (1). BAD.");
        RoadRiver x = new RoadRiver();
        check.due("how many", x.never(0), 1);
        check.due("the set", x.never(1), 0);
        int[] wrong = {-1, 2, LEAST, MOST};
        for (int what : wrong) {
            check.due("never " + what, x.never(what), BAD);
        }
    }

    private static void gainRefuses() {
        check.says("The mean of that set: above, below. BAD. (As the least long and x more.)");
        RoadRiver x = new RoadRiver();
        check.due("above", x.gain(0), 0);
        check.due("below", x.gain(1), 1);
        int[] wrong = {-1, 2, LEAST, MOST};
        for (int what : wrong) {
            check.due("gain " + what, x.gain(what), -9223372036854775806L);
        }
    }
}
