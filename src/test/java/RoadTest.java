/** Promises 1 to 12: a new object, texts, deed, odds, dikes. */
public final class RoadTest {
    private static final int NONE = RoadRiver.NONE;
    private static final int BAD = RoadRiver.BAD;
    private static final int NOT = RoadRiver.NOT;
    private static final int FULL = RoadRiver.FULL;
    private static final int[] WILD = {Integer.MIN_VALUE, -2, -1, 30, 60, 100, 256, Integer.MAX_VALUE};

    private static final Check check = new Check();

    public static void main(String[] args) {
        newObject();
        type();
        undo();
        wipe();
        fault();
        height();
        level();
        set();
        odds();
        dike();
        read();
        breaks();
        check.end();
    }

    private static void newObject() {
        RoadRiver x = new RoadRiver();
        int[] counts = {0, 0, 0, 0, 0, 0, 0, 3, 0};
        for (int what = 0; what < counts.length; what++) {
            check.due("1 count " + what, x.count(what), counts[what]);
        }
        for (int text = 0; text < 4; text++) {
            check.due("1 wipe " + text, x.wipe(text), 0);
        }
        for (int s = 0; s < 4; s++) {
            check.due("1 lose " + s, x.lose(s), -11);
        }
        check.due("1 breaks", x.breaks(), NOT);
        int[] first = {3, 29, 5, 3, 1, 4, 1};
        for (int what = 0; what < first.length; what++) {
            check.due("1 set " + what, x.set(what, 1), first[what]);
        }
        RoadRiver y = new RoadRiver();
        check.due("1 objects are apart", y.set(2, 7), 5);
    }

    private static void type() {
        RoadRiver x = new RoadRiver();
        for (int n = 1; n <= 30; n++) {
            check.due("2 type", x.type(2, 255), n);
        }
        check.due("2 full", x.type(2, 48), FULL);
        check.due("2 full, bad byte", x.type(2, 256), BAD);
        check.due("2 full, bad byte", x.type(2, -1), BAD);
        check.due("2 unchanged", x.wipe(2), 30);
        for (int n = 1; n <= 12; n++) {
            check.due("2 road", x.type(3, 0), n);
        }
        check.due("2 road full", x.type(3, 48), FULL);
        for (int wild : WILD) {
            check.due("2 text", x.type(wild, 48), BAD);
        }
        check.due("2 text", x.type(4, 48), BAD);
        check.due("2 byte 255", x.type(0, 255), 1);
        check.due("2 byte 0", x.type(0, 0), 2);
    }

    private static void undo() {
        RoadRiver x = Check.valley("12", "5a");
        check.due("3 undo", x.undo(3), 1);
        check.due("3 yards", x.count(0), 1);
        check.due("3 fault stands", x.fault(0), 1);
        check.due("3 undo of a fault", x.undo(0), 1);
        check.due("3 no fault", x.fault(0), NONE);
        check.due("3 level", x.level(0, 0), 5);
        check.due("3 undo", x.undo(0), 0);
        check.due("3 level", x.level(0, 0), 0);
        check.due("3 empty", x.undo(0), NOT);
        check.due("3 type again", x.type(0, '7'), 1);
        check.due("3 level again", x.level(0, 0), 7);
        for (int wild : WILD) {
            check.due("3 text", x.undo(wild), BAD);
        }
        check.due("3 text", x.undo(4), BAD);
    }

    private static void wipe() {
        RoadRiver x = Check.valley("123", "9x", "88");
        check.due("4 wipe with a fault", x.wipe(0), 2);
        check.due("4 no fault", x.fault(0), NONE);
        check.due("4 wipe again", x.wipe(0), 0);
        check.due("4 another text stays", x.count(2), 2);
        check.due("4 wipe the road", x.wipe(3), 3);
        check.due("4 no yards", x.height(0), BAD);
        for (int wild : WILD) {
            check.due("4 text", x.wipe(wild), BAD);
        }
        check.due("4 text", x.wipe(4), BAD);
    }

    private static void fault() {
        RoadRiver x = new RoadRiver();
        check.due("5 empty", x.fault(0), NONE);
        Check.type(x, 0, "0123456789");
        check.due("5 all figures", x.fault(0), NONE);
        x.type(0, '9' + 1);
        check.due("5 above 9", x.fault(0), 10);
        Check.type(x, 0, "/");
        check.due("5 the first", x.fault(0), 10);
        x.type(1, '0' - 1);
        check.due("5 below 0", x.fault(1), 0);
        check.due("5 as if empty", x.count(1), 0);
        for (int wild : WILD) {
            check.due("5 text", x.fault(wild), BAD);
        }
        check.due("5 text", x.fault(4), BAD);
    }

    private static void height() {
        RoadRiver x = Check.valley("9050");
        int[] heights = {9, 0, 5, 0};
        for (int yard = 0; yard < 4; yard++) {
            check.due("6 height", x.height(yard), heights[yard]);
        }
        check.due("6 no such yard", x.height(4), BAD);
        check.due("6 no such yard", x.height(-1), BAD);
        check.due("6 no such yard", x.height(Integer.MAX_VALUE), BAD);
        x.type(3, ' ');
        check.due("6 with a fault", x.height(0), BAD);
    }

    private static void level() {
        RoadRiver x = Check.valley("", "907", "1", "");
        check.due("7 level", x.level(0, 0), 9);
        check.due("7 level", x.level(0, 2), 7);
        check.due("7 behind the last", x.level(0, 3), 0);
        check.due("7 last day", x.level(0, 29), 0);
        check.due("7 another spring", x.level(1, 0), 1);
        check.due("7 no figures", x.level(2, 0), 0);
        check.due("7 spring", x.level(3, 0), BAD);
        check.due("7 spring", x.level(-1, 0), BAD);
        check.due("7 day", x.level(0, 30), BAD);
        check.due("7 day", x.level(0, -1), BAD);
        x.type(0, 'x');
        check.due("7 with a fault", x.level(0, 0), 0);
    }

    private static void set() {
        RoadRiver x = new RoadRiver();
        int[] least = {0, 0, 0, 1, 0, 0, 0};
        int[] most = {9, 29, 99, 9, 99, 99, 9};
        int[] first = {3, 29, 5, 3, 1, 4, 1};
        for (int what = 0; what < 7; what++) {
            check.due("8 below", x.set(what, least[what] - 1), BAD);
            check.due("8 above", x.set(what, most[what] + 1), BAD);
            check.due("8 least", x.set(what, least[what]), first[what]);
            check.due("8 most", x.set(what, most[what]), least[what]);
            check.due("8 far above", x.set(what, Integer.MAX_VALUE), BAD);
            check.due("8 far below", x.set(what, Integer.MIN_VALUE), BAD);
            check.due("8 again", x.set(what, most[what]), most[what]);
        }
        check.due("8 what", x.set(7, 1), BAD);
        check.due("8 what", x.set(-1, 1), BAD);
        check.due("8 what", x.set(Integer.MIN_VALUE, 1), BAD);
    }

    private static void odds() {
        RoadRiver x = new RoadRiver();
        for (int spring = 0; spring < 3; spring++) {
            check.due("9 first", x.odds(spring, 99), 1);
            check.due("9 most", x.odds(spring, 0), 99);
            check.due("9 least", x.odds(spring, spring + 2), 0);
            check.due("9 above", x.odds(spring, 100), BAD);
            check.due("9 below", x.odds(spring, -1), BAD);
        }
        check.due("9 all", x.count(7), 9);
        check.due("9 spring", x.odds(3, 1), BAD);
        check.due("9 spring", x.odds(-1, 1), BAD);
    }

    private static void dike() {
        RoadRiver x = Check.valley("000", "999999999999999999999999999999");
        check.due("10 to below from", x.dike(1, 0, 0), BAD);
        check.due("10 from", x.dike(-1, 0, 0), BAD);
        check.due("10 to", x.dike(0, 12, 0), BAD);
        check.due("10 day", x.dike(0, 0, 30), BAD);
        check.due("10 day", x.dike(0, 0, -1), BAD);
        check.due("10 outside the road", x.dike(11, 11, 29), 1);
        check.due("10 dike", x.dike(1, 1, 4), 2);
        check.due("10 ahead of it", x.wet(0, 3, 1), 1);
        check.due("10 first day", x.wet(0, 4, 1), 0);
        check.due("10 last day", x.wet(0, 10, 1), 0);
        check.due("10 behind it", x.wet(0, 11, 1), 1);
        check.due("10 beside it", x.wet(0, 4, 0), 1);
        check.due("10 beside it", x.wet(0, 4, 2), 1);
        for (int n = 3; n <= 8; n++) {
            check.due("10 more", x.dike(0, 11, 29), n);
        }
        check.due("10 full", x.dike(0, 0, 0), FULL);
        check.due("10 bad when full", x.dike(5, 4, 0), BAD);
        check.due("10 how many", x.count(4), 8);
    }

    private static void read() {
        RoadRiver x = Check.valley("00", "99999");
        check.due("11 lost", x.read(0), -11);
        check.due("11 finding", x.count(8), 1);
        check.due("11 all wet", x.water(0, 1, 0), 3);
        Check.lay(x, 0, 0, 0, 0, 0, 1, 1, 1, 0, 0);
        check.due("11 as many as are whole", x.read(0), 2);
        check.due("11 they are there", x.count(4), 2);
        check.due("11 they keep", x.water(0, 1, 0), 0);
        check.due("11 they keep", x.water(0, 0, 0), 2);
        Check.lay(x, 1, 2, 0, 0, 2, 1, 0, 0, 0, 0, 0);
        check.due("11 up to one that may not be", x.read(1), 1);
        Check.lay(x, 2, 1, 0, 0, 30, 0, 0, 0);
        check.due("11 none may be", x.read(2), 0);
        Check.lay(x, 3, 0);
        check.due("11 no items", x.read(3), 0);
        Check.lay(x, 0, 0, new int[60]);
        check.due("11 as long as there is room", x.read(0), 5);
        check.due("11 no room", x.read(0), 0);
        check.due("11 how many", x.count(4), 8);
        RoadRiver y = Check.valley("000", "99999");
        Check.lay(y, 0, 1, 0, 1, 3);
        check.due("11 three items are whole", y.read(0), 1);
        check.due("11 from, to", y.water(0, 3, 0), 4);
        check.due("11 day", y.water(0, 2, 0), 7);
        check.due("11 sheet", x.read(4), BAD);
        check.due("11 sheet", x.read(-1), BAD);
        check.due("11 finding stays", x.count(8), 1);
    }

    private static void breaks() {
        RoadRiver x = Check.valley("00", "9");
        check.due("12 none", x.breaks(), NOT);
        x.dike(0, 0, 0);
        x.dike(1, 1, 0);
        check.due("12 kept", x.water(0, 0, 0), 0);
        check.due("12 the last one", x.breaks(), 1);
        check.due("12 wet again", x.water(0, 0, 0), 2);
        check.due("12 the other one", x.breaks(), 0);
        check.due("12 none again", x.breaks(), NOT);
        check.due("12 all wet", x.water(0, 0, 0), 3);
    }
}
