/** Promises 26 to 29: the day to watch, facts, and the springs that fit. */
public final class SignsTest {
    private static final int BAD = RoadRiver.BAD;
    private static final int FULL = RoadRiver.FULL;

    private static final Check check = new Check();

    public static void main(String[] args) {
        watch();
        fact();
        forget();
        fit();
        check.end();
    }

    private static void watch() {
        RoadRiver x = Check.valley("", "11121", "11321", "11322");
        check.due("26 two kinds at day 2", x.watch(), 2);
        x.type(1, '4');
        x.type(2, '5');
        check.due("26 three kinds", x.watch(), 5);
        x.odds(0, 0);
        check.due("26 odds above 0 alone", x.watch(), 4);
        x.odds(1, 0);
        check.due("26 one kind", x.watch(), 0);
        x.odds(2, 0);
        check.due("26 no kind", x.watch(), 0);
        RoadRiver y = Check.valley("", "000000000000000000000000000001");
        check.due("26 the last day", y.watch(), 29);
    }

    private static void fact() {
        RoadRiver x = new RoadRiver();
        int[][] wrong = {{-1, 0, 0}, {30, 0, 0}, {0, -1, 0}, {0, 12, 0}, {0, 0, -1}, {0, 0, 2}};
        for (int[] w : wrong) {
            check.due("27 bad", x.fact(w[0], w[1], w[2]), BAD);
        }
        for (int n = 1; n <= 8; n++) {
            check.due("27 fact", x.fact(29, 11, n & 1), n);
        }
        check.due("27 full", x.fact(0, 0, 0), FULL);
        for (int[] w : wrong) {
            check.due("27 bad ahead of full", x.fact(w[0], w[1], w[2]), BAD);
        }
        check.due("27 how many", x.count(6), 8);
    }

    private static void forget() {
        RoadRiver x = Check.valley("0", "5");
        check.due("28 none", x.forget(), 0);
        x.fact(0, 0, 1);
        x.fact(0, 0, 0);
        check.due("28 none fit", x.fit(), 0);
        check.due("28 two", x.forget(), 2);
        check.due("28 all fit", x.fit(), 7);
        check.due("28 none", x.forget(), 0);
        check.due("28 count", x.count(6), 0);
    }

    private static void fit() {
        RoadRiver x = Check.valley("024", "35", "0335", "");
        check.due("29 no facts", x.fit(), 7);
        x.fact(1, 1, 1);
        check.due("29 wet", x.fit(), 3);
        x.fact(0, 0, 0);
        check.due("29 wet later, dry before", x.fit(), 2);
        x.forget();
        x.fact(1, 2, 0);
        check.due("29 dry, without figures too", x.fit(), 6);
        x.fact(1, 3, 1);
        check.due("29 yards that are not there", x.fit(), 6);
        x.type(3, '9');
        check.due("29 now it is there", x.fit(), 0);
        x.wipe(3);
        check.due("29 no road", x.fit(), 7);
        RoadRiver y = Check.valley("0", "5", "5");
        y.odds(0, 0);
        y.fact(0, 0, 1);
        check.due("29 odds do not matter", y.fit(), 3);
        y.dike(0, 0, 0);
        check.due("29 dikes do", y.fit(), 0);
    }
}
