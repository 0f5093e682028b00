/** Promises 22 to 25: contracts and the sets that never lose. */
public final class ContractsTest {
    private static final int BAD = RoadRiver.BAD;
    private static final long BAD_LONG = Long.MIN_VALUE + 2;

    private static final Check check = new Check();

    public static void main(String[] args) {
        contract();
        tears();
        never();
        gain();
        check.end();
    }

    private static void contract() {
        RoadRiver x = new RoadRiver();
        check.due("22 new", x.contract(0, 0, 0, 0), 0);
        check.due("22 last", x.contract(7, 29, 99, 99), 0);
        check.due("22 again", x.contract(7, 0, 1, 1), 1);
        check.due("22 how many", x.count(5), 2);
        int[][] wrong = {{-1, 0, 0, 0}, {8, 0, 0, 0}, {1, -1, 0, 0}, {1, 30, 0, 0}, {1, 0, -1, 0},
            {1, 0, 100, 0}, {1, 0, 0, -1}, {1, 0, 0, 100}, {Integer.MAX_VALUE, 0, 0, 0},
            {32, 0, 0, 0}, {7, 30, 5, 5}};
        for (int[] w : wrong) {
            check.due("22 bad", x.contract(w[0], w[1], w[2], w[3]), BAD);
        }
        check.due("22 unchanged", x.count(5), 2);
    }

    private static void tears() {
        RoadRiver x = new RoadRiver();
        x.contract(3, 1, 2, 3);
        check.due("23 was not there", x.tears(2), 0);
        check.due("23 was there", x.tears(3), 1);
        check.due("23 is not any more", x.tears(3), 0);
        check.due("23 how many", x.count(5), 0);
        check.due("23 bad", x.tears(8), BAD);
        check.due("23 bad", x.tears(-1), BAD);
        check.due("23 bad", x.tears(35), BAD);
        check.due("23 new again", x.contract(3, 1, 2, 3), 0);
    }

    private static void never() {
        RoadRiver x = Check.valley("", "003", "0003", "");
        check.due("24 no contracts", x.never(0), 1);
        check.due("24 no contracts", x.never(1), 0);
        x.contract(1, 2, 10, 5);
        check.due("24 it may lose", x.never(0), 1);
        x.contract(4, 29, 5, 5);
        check.due("24 it loses without possession", x.never(0), 1);
        x.odds(2, 0);
        check.due("24 not there: on day 3 one loses", x.never(0), 2);
        check.due("24 of like ones the least bits", x.never(1), 0);
        x.odds(1, 0);
        check.due("24 paid on the told day", x.never(0), 4);
        check.due("24 paid on the told day", x.never(1), 2);
        x.contract(1, 1, 10, 5);
        check.due("24 not paid a day ahead", x.never(0), 2);
        x.odds(0, 0);
        check.due("24 no odds", x.never(0), 4);
        check.due("24 no odds", x.never(1), 0);
        hedge();
        check.due("24 what", x.never(2), BAD);
        check.due("24 what", x.never(-1), BAD);
    }

    /** The first one alone may lose; with the other one it never does, and brings more. */
    private static void hedge() {
        RoadRiver x = Check.valley("", "3", "03", "03");
        x.contract(0, 0, 40, 8);
        x.contract(5, 29, 9, 1);
        check.due("24 together", x.never(0), 3);
        check.due("24 together", x.never(1), 33);
        x.odds(0, 0);
        check.due("24 without that spring", x.never(1), 32);
        for (int c = 0; c < 8; c++) {
            x.contract(c, 29, 2, 1);
        }
        check.due("24 all", x.never(0), 256);
        check.due("24 all", x.never(1), 255);
    }

    private static void gain() {
        RoadRiver x = Check.valley("", "3", "03", "03");
        check.due("25 none", x.gain(0), 0);
        check.due("25 none", x.gain(1), 1);
        x.contract(0, 0, 40, 8);
        x.contract(5, 29, 9, 1);
        // 40 in spring 0, 0 in the others
        check.due("25 above", x.gain(0), 40);
        check.due("25 below", x.gain(1), 3);
        x.odds(0, 3);
        x.odds(1, 3);
        x.odds(2, 0);
        check.due("25 lowest terms", x.gain(0), 20);
        check.due("25 lowest terms", x.gain(1), 1);
        x.odds(0, 0);
        x.odds(1, 0);
        check.due("25 no odds", x.gain(0), 0);
        check.due("25 no odds", x.gain(1), 1);
        check.due("25 what", x.gain(2), BAD_LONG);
        check.due("25 what", x.gain(-1), BAD_LONG);
    }
}
