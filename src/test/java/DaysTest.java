/** Promises 13 to 18: possession, water, costs, what is closed and the deed's worth. */
public final class DaysTest {
    private static final int NONE = RoadRiver.NONE;
    private static final int BAD = RoadRiver.BAD;

    private static final Check check = new Check();

    public static void main(String[] args) {
        possession();
        wet();
        water();
        cost();
        closed();
        deed();
        check.end();
    }

    private static void possession() {
        RoadRiver x = Check.valley("0", "0023", "9", "222");
        check.due("13 first thaw", x.possession(0), 3);
        check.due("13 day 0", x.possession(1), 0);
        check.due("13 none", x.possession(2), NONE);
        x.set(1, 2);
        check.due("13 behind George", x.possession(0), NONE);
        x.set(1, 3);
        check.due("13 on George", x.possession(0), 3);
        x.set(0, 2);
        check.due("13 lower thaw", x.possession(0), 2);
        check.due("13 lower thaw", x.possession(2), 0);
        x.wipe(2);
        x.set(0, 0);
        check.due("13 thaw 0 without figures", x.possession(2), 0);
        x.set(0, 9);
        check.due("13 thaw 9", x.possession(1), 0);
        x.type(1, 'x');
        check.due("13 fault", x.possession(1), NONE);
        check.due("13 spring", x.possession(3), BAD);
        check.due("13 spring", x.possession(-1), BAD);
    }

    private static void wet() {
        RoadRiver x = Check.valley("214", "2542222");
        check.due("14 not lent yet", x.wet(0, 0, 1), 0);
        check.due("14 above", x.wet(0, 1, 2), 1);
        check.due("14 as high", x.wet(0, 2, 2), 0);
        check.due("14 lent below thaw", x.wet(0, 3, 1), 1);
        check.due("14 as high", x.wet(0, 3, 0), 0);
        x.set(1, 3);
        check.due("14 on George", x.wet(0, 3, 1), 1);
        check.due("14 behind George", x.wet(0, 4, 1), 0);
        check.due("14 spring", x.wet(3, 0, 0), BAD);
        check.due("14 day", x.wet(0, 30, 0), BAD);
        check.due("14 day", x.wet(0, -1, 0), BAD);
        check.due("14 yard", x.wet(0, 0, 3), BAD);
        check.due("14 yard", x.wet(0, 0, -1), BAD);
    }

    private static void water() {
        RoadRiver x = Check.valley("050505000095", "4");
        check.due("15 wet", x.water(0, 0, 0), 0b001111010101);
        check.due("15 islands", x.water(0, 0, 1), 0b000000101010);
        check.due("15 another day", x.water(0, 1, 0), 0);
        check.due("15 another day", x.water(0, 1, 1), 0);
        x.dike(8, 8, 0);
        check.due("15 a dike makes an island", x.water(0, 0, 1), 0b000100101010);
        RoadRiver y = Check.valley("909", "1");
        y.set(0, 0);
        check.due("15 ends are none", y.water(0, 0, 1), 0);
        check.due("15 what", x.water(0, 0, 2), BAD);
        check.due("15 what", x.water(0, 0, -1), BAD);
        check.due("15 spring", x.water(3, 0, 0), BAD);
        check.due("15 day", x.water(0, 30, 1), BAD);
    }

    private static void cost() {
        RoadRiver x = Check.valley("0090099", "5");
        check.due("16 road", x.cost(0, 0, 0, 6, 1), 5 + 1 + 5 + 2);
        check.due("16 ridge", x.cost(0, 0, 0, 6, 2), 21);
        check.due("16 lesser", x.cost(0, 0, 0, 6, 0), 13);
        check.due("16 back", x.cost(0, 0, 6, 0, 1), 13);
        check.due("16 rows in the way alone", x.cost(0, 0, 1, 2, 1), 6);
        check.due("16 one wet yard", x.cost(0, 0, 4, 4, 1), 5);
        check.due("16 lesser by the ridge", x.cost(0, 0, 4, 4, 0), 3);
        check.due("16 one dry yard", x.cost(0, 0, 2, 2, 0), 1);
        check.due("16 dry day", x.cost(0, 1, 0, 6, 0), 7);
        x.set(2, 0);
        check.due("16 free ferry", x.cost(0, 0, 0, 1, 0), 0);
        x.set(3, 9);
        check.due("16 dear ridge", x.cost(0, 0, 0, 1, 2), 18);
        check.due("16 what", x.cost(0, 0, 0, 0, 3), BAD);
        check.due("16 what", x.cost(0, 0, 0, 0, -1), BAD);
        check.due("16 from", x.cost(0, 0, 7, 0, 0), BAD);
        check.due("16 to", x.cost(0, 0, 0, 7, 0), BAD);
        check.due("16 to", x.cost(0, 0, 0, -1, 0), BAD);
        check.due("16 spring", x.cost(3, 0, 0, 0, 0), BAD);
        check.due("16 day", x.cost(0, 30, 0, 0, 0), BAD);
    }

    private static void closed() {
        RoadRiver x = Check.valley("048", "2399122");
        check.due("17 closed", x.closed(0, 0), 6);
        check.due("17 closed", x.closed(0, 1), 2);
        check.due("17 closed", x.closed(0, 2), 2);
        check.due("17 without figures", x.closed(1, 0), 0);
        x.dike(1, 2, 3);
        check.due("17 with a dike", x.closed(0, 1), 1);
        RoadRiver y = Check.valley("0", "999999999999999999999999999999");
        check.due("17 all days", y.closed(0, 0), 30);
        check.due("17 yard", x.closed(0, 3), BAD);
        check.due("17 yard", x.closed(0, -1), BAD);
        check.due("17 spring", x.closed(3, 0), BAD);
    }

    private static void deed() {
        RoadRiver x = Check.valley("048", "2399122");
        check.due("18 gravel", x.deed(0, 0), 10);
        check.due("18 wet days", x.deed(0, 1), 6);
        check.due("18 worth", x.deed(0, 2), 10 - 24);
        x.set(4, 99);
        check.due("18 price", x.deed(0, 2), 990 - 24);
        x.set(4, 0);
        x.set(5, 99);
        check.due("18 any number", x.deed(0, 2), -594);
        check.due("18 no water", x.deed(1, 2), 0);
        RoadRiver y = Check.valley("00", "999999999999999999999999999999");
        check.due("18 all days", y.deed(0, 0), 60);
        check.due("18 all days", y.deed(0, 1), 30);
        check.due("18 spring", x.deed(3, 0), -100002);
        check.due("18 spring", x.deed(-1, 2), -100002);
        check.due("18 what", x.deed(0, 3), -100002);
        check.due("18 what", x.deed(0, -1), -100002);
        x.wipe(3);
        check.due("18 no yards", x.deed(0, 1), 0);
    }
}
