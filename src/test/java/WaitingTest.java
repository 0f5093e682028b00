/** Promises 19 to 21: waiting, going, a dike more. */
public final class WaitingTest {
    private static final int BAD = RoadRiver.BAD;
    private static final int NOT = RoadRiver.NOT;
    private static final long BAD_LONG = Long.MIN_VALUE + 2;
    private static final long NOT_LONG = Long.MIN_VALUE + 3;

    private static final Check check = new Check();

    public static void main(String[] args) {
        waits();
        waitsByOdds();
        waitsRefused();
        goes();
        keep();
        keepRefused();
        check.end();
    }

    private static void fraction(String what, RoadRiver x, int[] call, long above, long below) {
        check.due("19 above: " + what, x.waits(call[0], call[1], call[2], call[3], 0), above);
        check.due("19 below: " + what, x.waits(call[0], call[1], call[2], call[3], 1), below);
    }

    private static void waits() {
        RoadRiver x = Check.valley("0000", "0555", "0555", "0555");
        x.set(2, 50);
        x.set(3, 9);
        fraction("dry at once", x, new int[] {0, 0, 0, 3}, 4, 1);
        fraction("three days", x, new int[] {0, 1, 0, 3}, 7, 1);
        fraction("back", x, new int[] {0, 1, 3, 0}, 7, 1);
        fraction("two days", x, new int[] {1, 2, 0, 3}, 6, 1);
        x.set(6, 9);
        fraction("dear days: the ridge is dearer still", x, new int[] {0, 1, 0, 3}, 31, 1);
        x.set(3, 1);
        fraction("the ridge", x, new int[] {0, 1, 0, 3}, 4, 1);
        x.set(2, 0);
        fraction("nothing", x, new int[] {0, 1, 0, 3}, 0, 1);
        x.dike(0, 0, 1);
        fraction("dikes are known", x, new int[] {0, 1, 0, 0}, 1, 1);
        RoadRiver y = Check.valley("00", "999999999999999999999999999990");
        y.set(3, 9);
        y.set(2, 99);
        fraction("up to the last day", y, new int[] {0, 28, 0, 1}, 3, 1);
        check.due("20 up to the last day", y.goes(0, 28, 0, 1), 0);
    }

    /** On day 0 alike; then one falls at once, one after a day more, one stays to the last day. */
    private static void waitsByOdds() {
        String high = "999999999999999999999999999999";
        RoadRiver x = Check.valley("00", "90", "990", high);
        x.set(2, 40);
        x.set(3, 9);
        // day 1, springs 1 and 2: 18 at once, or 1 + (2 + 18) / 2 = 11; day 0: 1 + (2 + 11 + 11) / 3
        fraction("three alike", x, new int[] {0, 0, 0, 1}, 9, 1);
        fraction("two alike", x, new int[] {1, 1, 0, 1}, 11, 1);
        fraction("two alike", x, new int[] {2, 1, 0, 1}, 11, 1);
        fraction("alone", x, new int[] {2, 2, 0, 1}, 18, 1);
        fraction("alone", x, new int[] {0, 1, 0, 1}, 2, 1);
        x.odds(0, 0);
        fraction("by odds", x, new int[] {0, 0, 0, 1}, 12, 1);
        check.due("19 odds 0", x.waits(0, 1, 0, 1, 0), NOT_LONG);
        x.odds(0, 7);
        x.odds(1, 0);
        fraction("seven to one", x, new int[] {1, 0, 0, 1}, 5, 1);
        fraction("one left", x, new int[] {1, 1, 0, 1}, 18, 1);
        check.due("19 odds 0 alone", x.waits(1, 2, 0, 1, 1), NOT_LONG);
        x.odds(1, 2);
        fraction("thirds", x, new int[] {2, 1, 0, 1}, 25, 3);
        x.odds(1, 6);
        x.odds(2, 3);
        fraction("lowest terms", x, new int[] {2, 1, 0, 1}, 25, 3);
    }

    private static void waitsRefused() {
        RoadRiver x = Check.valley("00", "5", "4");
        x.odds(0, 0);
        check.due("19 not", x.waits(0, 0, 0, 1, 0), NOT_LONG);
        check.due("19 not, below", x.waits(0, 29, 0, 1, 1), NOT_LONG);
        check.due("19 bad ahead of not", x.waits(0, 0, 0, 1, 2), BAD_LONG);
        check.due("19 what", x.waits(0, 0, 0, 1, -1), BAD_LONG);
        check.due("19 spring", x.waits(3, 0, 0, 1, 0), BAD_LONG);
        check.due("19 spring", x.waits(-1, 0, 0, 1, 0), BAD_LONG);
        check.due("19 day", x.waits(1, 30, 0, 1, 0), BAD_LONG);
        check.due("19 day", x.waits(1, -1, 0, 1, 0), BAD_LONG);
        check.due("19 from", x.waits(1, 0, 2, 1, 0), BAD_LONG);
        check.due("19 to", x.waits(1, 0, 0, 2, 0), BAD_LONG);
        check.due("19 to", x.waits(1, 0, 0, Integer.MIN_VALUE, 0), BAD_LONG);
    }

    private static void goes() {
        RoadRiver x = Check.valley("000", "00550", "00550", "00550");
        check.due("20 dry", x.goes(0, 0, 0, 2), 1);
        check.due("20 of like ones yes", x.goes(0, 2, 0, 2), 1);
        x.set(2, 6);
        check.due("20 to wait is better", x.goes(0, 2, 0, 2), 0);
        check.due("20 back", x.goes(0, 2, 2, 0), 0);
        check.due("20 the ridge", x.goes(0, 2, 1, 1), 1);
        x.set(6, 2);
        check.due("20 dearer days", x.goes(0, 2, 0, 2), 1);
        check.due("20 a day left", x.goes(0, 3, 0, 2), 0);
        check.due("20 last day", x.goes(0, 29, 0, 2), 1);
        check.due("20 spring", x.goes(3, 0, 0, 0), BAD);
        check.due("20 day", x.goes(0, 30, 0, 0), BAD);
        check.due("20 from", x.goes(0, 0, 3, 0), BAD);
        check.due("20 to", x.goes(0, 0, 0, -1), BAD);
        x.odds(0, 0);
        check.due("20 another spring may be so", x.goes(0, 0, 0, 2), 1);
        x.odds(1, 0);
        x.odds(2, 0);
        check.due("20 not", x.goes(0, 0, 0, 2), NOT);
        check.due("20 bad ahead of not", x.goes(0, 0, 0, 3), BAD);
    }

    private static void keepIs(String what, RoadRiver x, int[] call, int... due) {
        for (int i = 0; i < 3; i++) {
            int got = x.keep(call[0], call[1], call[2], call[3], call[4], i);
            check.due("21 " + what + ", " + i, got, due[i]);
        }
    }

    private static void keep() {
        RoadRiver x = Check.valley("04214", "33333353");
        keepIs("one yard of two low ones", x, new int[] {0, 0, 0, 4, 1}, 0, 0, 0);
        keepIs("two yards", x, new int[] {0, 0, 2, 3, 2}, 7, 2, 2);
        keepIs("back", x, new int[] {0, 0, 3, 2, 2}, 7, 2, 2);
        keepIs("most days", x, new int[] {0, 0, 1, 4, 12}, 7, 1, 4);
        keepIs("fewer yards keep fewer days", x, new int[] {0, 0, 1, 4, 3}, 6, 2, 2);
        keepIs("one day left", x, new int[] {0, 29, 0, 4, 4}, 1, 0, 0);
        keepIs("days up to 29", x, new int[] {0, 25, 0, 4, 4}, 5, 0, 0);
        x.dike(2, 2, 0);
        keepIs("the first of like ones", x, new int[] {0, 0, 2, 3, 9}, 7, 3, 1);
        for (int n = 0; n < 7; n++) {
            x.dike(11, 11, 0);
        }
        keepIs("however many there are", x, new int[] {0, 0, 2, 3, 9}, 7, 3, 1);
        check.due("21 no dike comes", x.count(4), 8);
        RoadRiver y = Check.valley("10001", "00001300000");
        y.set(1, 4);
        keepIs("not lent", y, new int[] {0, 0, 0, 4, 5}, 7, 0, 0);
        y.set(1, 29);
        y.set(0, 1);
        keepIs("one more day", y, new int[] {0, 0, 0, 4, 3}, 6, 1, 3);
        keepIs("two more days", y, new int[] {0, 0, 0, 4, 5}, 7, 0, 5);
        RoadRiver z = Check.valley("11", "3");
        keepIs("a way of one yard", z, new int[] {0, 0, 1, 1, 1}, 7, 1, 1);
    }

    private static void keepRefused() {
        RoadRiver x = Check.valley("00", "5");
        check.due("21 yards", x.keep(0, 0, 0, 1, 0, 0), BAD);
        check.due("21 yards", x.keep(0, 0, 0, 1, 13, 0), BAD);
        check.due("21 yards", x.keep(0, 0, 0, 1, Integer.MAX_VALUE, 0), BAD);
        check.due("21 yards 12", x.keep(0, 0, 0, 1, 12, 0), 7);
        check.due("21 what", x.keep(0, 0, 0, 1, 1, 3), BAD);
        check.due("21 what", x.keep(0, 0, 0, 1, 1, -1), BAD);
        check.due("21 spring", x.keep(3, 0, 0, 1, 1, 0), BAD);
        check.due("21 day", x.keep(0, 30, 0, 1, 1, 0), BAD);
        check.due("21 from", x.keep(0, 0, 2, 1, 1, 0), BAD);
        check.due("21 to", x.keep(0, 0, 0, -1, 1, 0), BAD);
        x.odds(0, 0);
        check.due("21 odds do not matter", x.keep(0, 0, 0, 1, 2, 2), 2);
    }
}
