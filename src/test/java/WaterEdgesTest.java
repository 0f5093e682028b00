/** Promises 10 to 15, and what is said of the deed, of dikes and islands: each sentence with a boundary. */
public final class WaterEdgesTest {
    private static final int NONE = RoadRiver.NONE;
    private static final int BAD = RoadRiver.BAD;
    private static final int NOT = RoadRiver.NOT;
    private static final int FULL = RoadRiver.FULL;
    private static final int LEAST = Integer.MIN_VALUE;
    private static final int MOST = Integer.MAX_VALUE;
    private static final String FLOOD = "9".repeat(30);
    private static final String LOW_ROAD = "0".repeat(12);

    private static final Check check = new Check();

    public static void main(String[] args) {
        possessionByThaw();
        possessionUpToGeorge();
        possessionOfThawZero();
        lentFromPossessionToGeorge();
        wetAboveItsHeight();
        dryWhateverTheLevelIs();
        dikesEightAtMost();
        dikesFromYardToYard();
        dikesForSevenDays();
        dikesThatLieOverOneAnother();
        islands();
        islandsByDikes();
        dikeRefuses();
        readWholeOnes();
        readUpToOneThatMayNotBe();
        readAsLongAsThereIsRoom();
        readByForms();
        breaksTheLastOne();
        possessionRefuses();
        wetRefuses();
        waterRefuses();
        eachChangeIsSeenAtOnce();
        check.end();
    }

    private static void possessionByThaw() {
        check.says("POSSESSION of a SPRING is the first DAY with a LEVEL of THAW or more, up to GEORGE; NONE");
        RoadRiver x = Check.valley("", "0123456789", "9", "");
        for (int thaw = 0; thaw <= 9; thaw++) {
            x.set(0, thaw);
            check.due("as high as the thaw " + thaw, x.possession(0), thaw);
            check.due("above the thaw " + thaw, x.possession(1), 0);
            check.due("nothing told, thaw " + thaw, x.possession(2), thaw == 0 ? 0 : NONE);
        }
        RoadRiver y = Check.valley("", "888888888888888888888888888888", "2", "00302");
        check.due("the first of many", y.possession(0), 0);
        check.due("one below the thaw", y.possession(1), NONE);
        check.due("between lower ones", y.possession(2), 2);
        y.set(0, 9);
        check.due("never as high", y.possession(0), NONE);
    }

    private static void possessionUpToGeorge() {
        check.says("POSSESSION of a SPRING is the first DAY with a LEVEL of THAW or more, up to GEORGE; NONE");
        String late = "0".repeat(29) + "3";
        RoadRiver x = Check.valley("", late, "00003", "3");
        check.due("on the last day", x.possession(0), 29);
        x.set(1, 28);
        check.due("a day behind George", x.possession(0), NONE);
        x.set(1, 4);
        check.due("on George", x.possession(1), 4);
        x.set(1, 3);
        check.due("a day behind George", x.possession(1), NONE);
        x.set(1, 0);
        check.due("day 0, George 0", x.possession(2), 0);
        check.due("later, George 0", x.possession(1), NONE);
        x.set(1, 29);
        check.due("George 29 again", x.possession(0), 29);
    }

    private static void possessionOfThawZero() {
        check.says("POSSESSION of a SPRING is the first DAY with a LEVEL of THAW or more, up to GEORGE; NONE");
        RoadRiver x = Check.valley("0", "0001", "x9");
        x.set(0, 0);
        for (int spring = 0; spring < 3; spring++) {
            check.due("any level is enough", x.possession(spring), 0);
        }
        check.due("lent from day 0", x.wet(0, 3, 0), 1);
        x.set(1, 0);
        check.due("George 0", x.possession(2), 0);
        check.due("lent on day 0 alone", x.wet(0, 3, 0), 0);
    }

    private static void lentFromPossessionToGeorge() {
        check.says("On DAYS from POSSESSION to GEORGE the road is lent");
        RoadRiver x = Check.valley("0", "2222322222");
        for (int day = 0; day < 10; day++) {
            check.due("day " + day, x.wet(0, day, 0), day >= 4 ? 1 : 0);
        }
        x.set(1, 7);
        for (int day = 0; day < 10; day++) {
            check.due("day " + day + ", George 7", x.wet(0, day, 0), day >= 4 && day <= 7 ? 1 : 0);
        }
        x.set(1, 4);
        check.due("one day", x.closed(0, 0), 1);
        check.due("that day", x.wet(0, 4, 0), 1);
        x.set(1, 3);
        check.due("no day", x.closed(0, 0), 0);
        RoadRiver y = Check.valley("0", FLOOD);
        check.due("day 0", y.wet(0, 0, 0), 1);
        check.due("day 29", y.wet(0, 29, 0), 1);
        y.set(1, 0);
        check.due("day 0, George 0", y.wet(0, 0, 0), 1);
        check.due("day 1, George 0", y.wet(0, 1, 0), 0);
    }

    private static void wetAboveItsHeight() {
        check.says("a YARD is WET, if the LEVEL is above its HEIGHT, and no DIKE keeps it");
        RoadRiver x = Check.valley("0123456789", "9876543210");
        for (int day = 0; day < 10; day++) {
            for (int yard = 0; yard < 10; yard++) {
                check.due("level " + (9 - day) + ", height " + yard, x.wet(0, day, yard), 9 - day > yard ? 1 : 0);
            }
        }
        check.due("the highest level", x.water(0, 0, 0), 511);
        check.due("the lowest level", x.water(0, 9, 0), 0);
        RoadRiver full = Check.valley(LOW_ROAD, "1");
        full.set(0, 1);
        check.due("twelve yards", full.water(0, 0, 0), 4095);
        check.due("the last one", full.wet(0, 0, 11), 1);
    }

    private static void dryWhateverTheLevelIs() {
        check.says("else, and on other DAYS, it is dry (whatever the LEVEL is)");
        RoadRiver x = Check.valley("00", "8899", "8", "8");
        x.set(0, 9);
        check.due("ahead of possession", x.water(0, 1, 0), 0);
        check.due("on possession", x.water(0, 2, 0), 3);
        check.due("no possession", x.water(1, 0, 0), 0);
        x.set(1, 2);
        check.due("behind George", x.water(0, 3, 0), 0);
        check.due("cost on a dry day", x.cost(0, 3, 0, 1, 1), 2);
    }

    private static void dikesEightAtMost() {
        check.says("DIKES, 8 at most");
        RoadRiver x = Check.valley(LOW_ROAD, FLOOD);
        for (int n = 1; n <= 8; n++) {
            check.due("dike " + n, x.dike(n, n, 0), n);
            check.due("how many", x.count(4), n);
        }
        check.due("dike 9", x.dike(0, 0, 0), FULL);
        check.due("BAD ahead of FULL", x.dike(0, 0, 30), BAD);
        check.due("how many", x.count(4), 8);
        check.due("all of them keep", x.water(0, 0, 0), 0b111000000001);
        check.due("the last one breaks", x.breaks(), 7);
        check.due("it kept yard 8", x.water(0, 0, 0), 0b111100000001);
        check.due("room again", x.dike(9, 9, 0), 8);
        check.due("full again", x.dike(9, 9, 0), FULL);
        check.due("it keeps yard 9", x.water(0, 0, 0), 0b110100000001);
    }

    private static void dikesFromYardToYard() {
        check.says("from a YARD (0 to 11) to a YARD");
        for (int from = 0; from < 12; from++) {
            for (int to = 0; to < 12; to++) {
                RoadRiver x = Check.valley(LOW_ROAD, "9");
                check.due("dike " + from + " " + to, x.dike(from, to, 0), from <= to ? 1 : BAD);
                int wet = 0;
                for (int yard = 0; yard < 12; yard++) {
                    wet |= from <= yard && yard <= to ? 0 : 1 << yard;
                }
                check.due("wet beside " + from + " to " + to, x.water(0, 0, 0), wet);
            }
        }
        RoadRiver x = Check.valley("000", "9");
        check.due("behind the road", x.dike(3, 11, 0), 1);
        check.due("keeps none of it", x.water(0, 0, 0), 7);
        check.due("beyond its end", x.dike(2, 11, 0), 2);
        check.due("keeps the last yard", x.water(0, 0, 0), 3);
        Check.type(x, 3, "00");
        check.due("keeps yards that come later", x.water(0, 0, 0), 3);
    }

    private static void dikesForSevenDays() {
        check.says("from a DAY on, for 7 DAYS");
        for (int first = 0; first < 30; first++) {
            RoadRiver x = Check.valley("00", FLOOD);
            check.due("dike on day " + first, x.dike(1, 1, first), 1);
            for (int day = 0; day < 30; day++) {
                boolean isKept = day >= first && day <= first + 6;
                check.due("dike on day " + first + ", day " + day, x.water(0, day, 0), isKept ? 1 : 3);
            }
            check.due("closed", x.closed(0, 1), 30 - Math.min(7, 30 - first));
        }
    }

    private static void dikesThatLieOverOneAnother() {
        check.says("a YARD is WET, if the LEVEL is above its HEIGHT, and no DIKE keeps it");
        RoadRiver x = Check.valley("0000", FLOOD);
        x.dike(0, 2, 3);
        x.dike(1, 3, 6);
        check.due("the first alone", x.water(0, 5, 0), 0b1000);
        check.due("both", x.water(0, 6, 0), 0);
        check.due("both, last day", x.water(0, 9, 0), 0);
        check.due("the other alone", x.water(0, 10, 0), 1);
        check.due("neither", x.water(0, 13, 0), 15);
        check.due("one breaks", x.breaks(), 1);
        check.due("the first still keeps", x.water(0, 9, 0), 0b1000);
        check.due("nothing keeps", x.water(0, 10, 0), 15);
    }

    private static void islands() {
        check.says("An ISLAND is a dry YARD with YARDS on both sides, both of which are WET.");
        String[] roads = {"", "9", "09", "90", "909", "090", "0990", "09090", "90909", "000", "999", "009", "900",
            "090909090909", "909090909090", "009000900009", "099099099090"};
        int[] due = {0, 0, 0, 0, 0, 2, 0, 10, 4, 0, 0, 0, 0, 0b010101010100 >> 1, 0b010101010100,
            0b000001000100, 0b010000000000};
        for (int n = 0; n < roads.length; n++) {
            RoadRiver x = Check.valley(roads[n], "5");
            check.due("islands of " + roads[n], x.water(0, 0, 1), due[n]);
            check.due("none on a dry day", x.water(0, 1, 1), 0);
        }
    }

    private static void islandsByDikes() {
        check.says("An ISLAND is a dry YARD with YARDS on both sides, both of which are WET.");
        RoadRiver x = Check.valley(LOW_ROAD, FLOOD);
        check.due("all wet", x.water(0, 0, 1), 0);
        x.dike(0, 0, 0);
        x.dike(11, 11, 0);
        check.due("the ends are none", x.water(0, 0, 1), 0);
        x.dike(10, 10, 0);
        check.due("two side by side are none", x.water(0, 0, 1), 0);
        x.breaks();
        x.dike(1, 1, 0);
        x.breaks();
        x.dike(2, 2, 0);
        check.due("yard 2", x.water(0, 0, 1), 4);
        x.dike(9, 9, 1);
        check.due("yard 9, a day later", x.water(0, 1, 1), 0b001000000100);
        check.due("yard 9 alone, on day 7", x.water(0, 7, 1), 0b001000000000);
        check.due("none on day 8", x.water(0, 8, 1), 0);
    }

    private static void dikeRefuses() {
        check.says("A DIKE more: how many. BAD: also to below from; FULL.");
        RoadRiver x = Check.valley(LOW_ROAD, FLOOD);
        int[][] wrong = {{-1, 0, 0}, {12, 12, 0}, {LEAST, 0, 0}, {MOST, MOST, 0}, {0, -1, 0}, {0, 12, 0}, {0, LEAST, 0},
            {0, MOST, 0}, {0, 0, -1}, {0, 0, 30}, {0, 0, LEAST}, {0, 0, MOST}, {1, 0, 0}, {11, 10, 0}, {11, 0, 0},
            {-1, -1, 0}, {-2, 12, 30}};
        for (int[] w : wrong) {
            check.due("dike " + w[0] + " " + w[1] + " " + w[2], x.dike(w[0], w[1], w[2]), BAD);
        }
        check.due("none came", x.count(4), 0);
        check.due("least", x.dike(0, 0, 0), 1);
        check.due("most", x.dike(11, 11, 29), 2);
        check.due("all", x.dike(0, 11, 29), 3);
    }

    private static void readWholeOnes() {
        check.says("its items, three for each (from, to, DAY), as many as are whole");
        for (int items = 0; items <= 10; items++) {
            RoadRiver x = Check.valley(LOW_ROAD, FLOOD);
            x.sheet(3, 2, items);
            check.due(items + " items", x.read(3), items / 3);
            check.due("how many", x.count(4), items / 3);
            check.due("yard 0 on day 0", x.wet(0, 0, 0), items < 3 ? 1 : 0);
        }
        RoadRiver x = Check.valley(LOW_ROAD, FLOOD);
        Check.lay(x, 0, 0, 1, 2, 3, 11, 11, 29, 5);
        check.due("two", x.read(0), 2);
        check.due("the first, ahead of it", x.water(0, 2, 0), 4095);
        check.due("the first", x.water(0, 3, 0), 4095 - 6);
        check.due("the first, day 9", x.water(0, 9, 0), 4095 - 6);
        check.due("the first, behind it", x.water(0, 10, 0), 4095);
        check.due("the second", x.water(0, 29, 0), 2047);
        check.due("the sheet is as it was", x.get(0, 0, 6), 5);
        check.due("read again", x.read(0), 2);
        check.due("how many", x.count(4), 4);
        check.due("the last one read breaks", x.breaks(), 3);
        check.due("the same one is there still", x.water(0, 29, 0), 2047);
    }

    private static void readUpToOneThatMayNotBe() {
        check.says("as long as each may be");
        int[][] wrong = {{-1, 0, 0}, {0, 12, 0}, {0, 0, 30}, {0, 0, -1}, {5, 4, 0}, {12, 12, 0}};
        for (int[] w : wrong) {
            RoadRiver x = Check.valley(LOW_ROAD, FLOOD);
            Check.lay(x, 0, 1, 0, 0, 0, 11, 11, 29, w[0], w[1], w[2], 4, 4, 4);
            check.due("two, then none", x.read(0), 2);
            check.due("nothing behind it", x.count(4), 2);
            check.due("nothing behind it", x.wet(0, 4, 4), 1);
            Check.lay(x, 1, 1, w[0], w[1], w[2], 4, 4, 4);
            check.due("none", x.read(1), 0);
            check.due("no finding", x.count(8), 0);
        }
    }

    private static void readAsLongAsThereIsRoom() {
        check.says("and there is room: how many came. BAD; NULL.");
        for (int there = 0; there <= 8; there++) {
            RoadRiver x = new RoadRiver();
            for (int n = 0; n < there; n++) {
                x.dike(0, 0, 0);
            }
            x.sheet(0, 0, 60);
            check.due("room with " + there, x.read(0), 8 - there);
            check.due("full", x.count(4), 8);
            check.due("no room", x.read(0), 0);
        }
        RoadRiver x = new RoadRiver();
        int[] noSheet = {-1, 4, LEAST, MOST};
        for (int s : noSheet) {
            check.due("sheet " + s, x.read(s), BAD);
        }
        check.due("BAD is no finding", x.count(8), 0);
        for (int s = 0; s < 4; s++) {
            check.due("lost", x.read(s), -11);
        }
        check.due("finding", x.count(8), 1);
        x.sheet(0, 2, 0);
        check.due("a sheet without items", x.read(0), 0);
    }

    private static void readByForms() {
        check.says("DIKES more, by a SHEET: its items");
        for (int form = 0; form < 3; form++) {
            RoadRiver x = Check.valley(LOW_ROAD, FLOOD);
            Check.lay(x, form, form, 256 + 1, 65536 + 1, 0);
            // the lowest bits of a byte tell 1 and 1, of a short 257 and 1, of an int neither
            check.due("form " + form, x.read(form), form == 0 ? 1 : 0);
            check.due("wet", x.water(0, 0, 0), form == 0 ? 4093 : 4095);
        }
    }

    private static void breaksTheLastOne() {
        check.says("The last DIKE breaks: how many are left. NOT: none.");
        RoadRiver x = Check.valley(LOW_ROAD, FLOOD);
        check.due("none", x.breaks(), NOT);
        for (int n = 0; n < 8; n++) {
            x.dike(n, n, n);
        }
        for (int left = 7; left >= 0; left--) {
            check.due("left", x.breaks(), left);
            check.due("how many", x.count(4), left);
            check.due("yard " + left, x.wet(0, left, left), 1);
            check.due("the one before", x.wet(0, Math.max(left - 1, 0), Math.max(left - 1, 0)), left == 0 ? 1 : 0);
        }
        check.due("none", x.breaks(), NOT);
        check.due("none", x.count(4), 0);
        check.due("a dike again", x.dike(0, 0, 0), 1);
    }

    private static void possessionRefuses() {
        check.says("POSSESSION; NONE. BAD.");
        RoadRiver x = Check.valley("", "3", "03", "003");
        for (int spring = 0; spring < 3; spring++) {
            check.due("spring " + spring, x.possession(spring), spring);
        }
        int[] noSpring = {-1, 3, LEAST, MOST};
        for (int spring : noSpring) {
            check.due("spring " + spring, x.possession(spring), BAD);
        }
    }

    private static void wetRefuses() {
        check.says("Whether a YARD is WET: 1, 0. BAD.");
        RoadRiver x = Check.valley("000", FLOOD, FLOOD, FLOOD);
        int[][] good = {{0, 0, 0}, {2, 0, 0}, {0, 29, 0}, {0, 0, 2}};
        for (int[] g : good) {
            check.due("wet " + g[0] + " " + g[1] + " " + g[2], x.wet(g[0], g[1], g[2]), 1);
        }
        int[][] wrong = {{-1, 0, 0}, {3, 0, 0}, {LEAST, 0, 0}, {MOST, 0, 0}, {0, -1, 0}, {0, 30, 0}, {0, LEAST, 0},
            {0, MOST, 0}, {0, 0, -1}, {0, 0, 3}, {0, 0, 11}, {0, 0, 32}, {0, 0, LEAST}, {0, 0, MOST}};
        for (int[] w : wrong) {
            check.due("wet " + w[0] + " " + w[1] + " " + w[2], x.wet(w[0], w[1], w[2]), BAD);
        }
    }

    private static void waterRefuses() {
        check.says("WET YARDS (what = 0), ISLANDS (1), as bits. BAD.");
        RoadRiver x = Check.valley("090", FLOOD, FLOOD, FLOOD);
        int[][] good = {{0, 0, 0}, {2, 0, 0}, {0, 29, 0}};
        for (int[] g : good) {
            check.due("wet yards", x.water(g[0], g[1], 0), 5);
            check.due("islands", x.water(g[0], g[1], 1), 2);
        }
        int[][] wrong = {{-1, 0, 0}, {3, 0, 0}, {LEAST, 0, 0}, {MOST, 0, 0}, {0, -1, 0}, {0, 30, 0}, {0, LEAST, 0},
            {0, MOST, 0}, {0, 0, -1}, {0, 0, 2}, {0, 0, LEAST}, {0, 0, MOST}};
        for (int[] w : wrong) {
            check.due("water " + w[0] + " " + w[1] + " " + w[2], x.water(w[0], w[1], w[2]), BAD);
        }
        RoadRiver y = Check.valley("", FLOOD);
        check.due("no yards, no water", y.water(0, 0, 0), 0);
        check.due("no yards, no islands", y.water(0, 0, 1), 0);
    }

    /** What was asked before does not linger: water is asked for between any two changes. */
    private static void eachChangeIsSeenAtOnce() {
        check.says("a YARD is WET, if the LEVEL is above its HEIGHT, and no DIKE keeps it");
        RoadRiver x = new RoadRiver();
        seen("nothing", x, 0);
        x.type(3, '0');
        x.type(3, '4');
        seen("a road", x, 0);
        x.type(0, '9');
        seen("a level", x, 3);
        x.undo(0);
        seen("undone", x, 0);
        x.type(0, '4');
        seen("another level", x, 1);
        x.wipe(0);
        seen("wiped", x, 0);
        x.type(0, '5');
        seen("told again", x, 3);
        x.set(0, 6);
        seen("thaw 6", x, 0);
        x.set(0, 5);
        seen("thaw 5", x, 3);
        x.dike(0, 0, 0);
        seen("a dike", x, 2);
        x.breaks();
        seen("it broke", x, 3);
        Check.lay(x, 0, 0, 1, 1, 0);
        seen("a sheet", x, 3);
        x.read(0);
        seen("it was read", x, 1);
        x.undo(3);
        seen("a yard less", x, 1);
        x.type(3, 'x');
        seen("a fault", x, 0);
        x.wipe(3);
        seen("no road", x, 0);
        Check.type(x, 3, "000");
        seen("three yards", x, 5);
        Check.retype(x, 0, "05");
        x.set(1, 0);
        check.due("George 0", x.water(0, 1, 0), 0);
        x.set(1, 1);
        check.due("George 1", x.water(0, 1, 0), 5);
    }

    private static void seen(String what, RoadRiver x, int wet) {
        check.due(what, x.water(0, 0, 0), wet);
    }
}
