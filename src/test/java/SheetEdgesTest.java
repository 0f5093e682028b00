/** Promises 30 to 35, and what is said of sheets and findings: each sentence with a boundary. */
public final class SheetEdgesTest {
    private static final int BAD = RoadRiver.BAD;
    private static final int NULL = -11, INDEX = -12, CAST = -13, STORE = -14, SIZE = -15;
    private static final int LEAST = Integer.MIN_VALUE;
    private static final int MOST = Integer.MAX_VALUE;

    private static final Check check = new Check();

    public static void main(String[] args) {
        lostAtFirst();
        zeroToSixtyItems();
        itemsAreZeroAtFirst();
        sheetRefuses();
        loseRefuses();
        layTheLowestBits();
        layRefuses();
        getTellsByItsFinding();
        theEndsOfARow();
        copyWithinOneSheet();
        copyToItsEnds();
        copyUpToSixty();
        copyOfNothing();
        copyRefuses();
        copyWrapsNowhere();
        copyInOrder();
        writeAsManyAsThereAre();
        writeClosed();
        writeRefuses();
        findings();
        check.end();
    }

    private static void items(String what, RoadRiver x, int s, int form, int... due) {
        for (int i = 0; i < due.length; i++) {
            check.due(what + ", item " + i, x.get(s, form, i), due[i]);
        }
    }

    private static void lostAtFirst() {
        check.says("SHEETS 0 .. 3 are LOST (at first) or a row of a FORM");
        for (int s = 0; s < 4; s++) {
            RoadRiver x = new RoadRiver();
            check.due("read", x.read(s), NULL);
            check.due("lose", x.lose(s), NULL);
            for (int form = 0; form < 3; form++) {
                check.due("lay", x.lay(s, form, 0, 0), NULL);
                check.due("get", x.get(s, form, 0), LEAST);
                check.due("finding", x.count(8), 1);
            }
            check.due("copy", x.copy(s, 0, s, 0, 0), NULL);
            check.due("write", x.write(0, s), NULL);
            check.due("a row", x.sheet(s, 0, 1), 1);
            check.due("read", x.read(s), 0);
            check.due("copy", x.copy(s, 0, s, 0, 1), 1);
            check.due("write", x.write(0, s), 0);
            check.due("others are lost still", x.lose((s + 1) % 4), NULL);
            check.due("lose", x.lose(s), 1);
            check.due("lost again", x.lose(s), NULL);
        }
    }

    private static void zeroToSixtyItems() {
        check.says("0 bytes, 1 shorts, 2 ints, of 0 to 60 items");
        for (int form = 0; form < 3; form++) {
            for (int n = 0; n <= 60; n++) {
                RoadRiver x = new RoadRiver();
                check.due("sheet of " + n, x.sheet(3, form, n), n);
                check.due("the last item", x.lay(3, form, n - 1, 9), n == 0 ? INDEX : 1);
                check.due("none behind it", x.lay(3, form, n, 9), INDEX);
                check.due("the last item", x.get(3, form, n - 1), n == 0 ? LEAST : 9);
                check.due("none behind it", x.get(3, form, n), LEAST);
                check.due("how many", x.lose(3), n);
            }
            RoadRiver x = new RoadRiver();
            check.due("61", x.sheet(0, form, 61), BAD);
            check.due("lost still", x.lose(0), NULL);
        }
    }

    private static void itemsAreZeroAtFirst() {
        check.says("of 0 to 60 items (0 at first); A SHEET is a new row of a FORM with n items: n");
        RoadRiver x = new RoadRiver();
        x.sheet(0, 2, 60);
        for (int i = 0; i < 60; i++) {
            check.due("0 at first", x.get(0, 2, i), 0);
            x.lay(0, 2, i, i + 1);
        }
        check.due("anew, of the same form", x.sheet(0, 2, 60), 60);
        for (int i = 0; i < 60; i++) {
            check.due("0 again", x.get(0, 2, i), 0);
            x.lay(0, 2, i, i + 1);
        }
        x.sheet(0, 2, 1);
        x.sheet(0, 1, 60);
        for (int i = 0; i < 60; i++) {
            check.due("0 again, of another form", x.get(0, 1, i), 0);
        }
        x.lay(0, 1, 59, 5);
        x.lose(0);
        x.sheet(0, 1, 60);
        check.due("0 after it was lost", x.get(0, 1, 59), 0);
    }

    private static void sheetRefuses() {
        check.says("A SHEET is a new row of a FORM with n items: n. BAD: SHEET, FORM, above 60; SIZE.");
        RoadRiver x = new RoadRiver();
        Check.lay(x, 1, 1, 7, 8);
        int[][] wrong = {{-1, 1, 5}, {4, 1, 5}, {LEAST, 1, 5}, {MOST, 1, 5}, {1, -1, 5}, {1, 3, 5}, {1, LEAST, 5},
            {1, MOST, 5}, {1, 1, 61}, {1, 1, MOST}, {4, 1, -1}, {-1, 1, -1}, {1, 3, -1}, {1, -1, LEAST}, {4, 3, 61}};
        for (int[] w : wrong) {
            check.due("sheet " + w[0] + " " + w[1] + " " + w[2], x.sheet(w[0], w[1], w[2]), BAD);
        }
        check.due("BAD is no finding", x.count(8), 0);
        check.due("-1", x.sheet(1, 1, -1), SIZE);
        check.due("finding", x.count(8), 5);
        check.due("the least", x.sheet(1, 0, LEAST), SIZE);
        check.due("one that is lost", x.sheet(3, 2, -1), SIZE);
        items("as it was", x, 1, 1, 7, 8);
        check.due("as it was", x.lose(1), 2);
        check.due("lost still", x.lose(3), NULL);
    }

    private static void loseRefuses() {
        check.says("It is LOST: how many items it had. BAD; NULL.");
        RoadRiver x = new RoadRiver();
        int[] many = {0, 1, 59, 60};
        for (int s = 0; s < 4; s++) {
            x.sheet(s, s % 3, many[s]);
        }
        int[] wrong = {-1, 4, LEAST, MOST};
        for (int s : wrong) {
            check.due("sheet " + s, x.lose(s), BAD);
        }
        check.due("BAD is no finding", x.count(8), 0);
        for (int s = 0; s < 4; s++) {
            check.due("it had", x.lose(s), many[s]);
            check.due("lost", x.lose(s), NULL);
        }
        check.due("finding", x.count(8), 1);
    }

    private static void layTheLowestBits() {
        check.says("Item i, treated as of a FORM, becomes v (the lowest bits that it has, with its sign): 1");
        int[][] rows = {{0, 0, 0}, {127, 127, 127}, {128, -128, 128}, {255, -1, 255}, {256, 0, 256}, {-1, -1, -1},
            {-128, -128, -128}, {-129, 127, -129}, {-256, 0, -256}, {32767, -1, 32767}, {32768, 0, -32768},
            {65535, -1, -1}, {65536, 0, 0}, {-32768, 0, -32768}, {-32769, -1, 32767}, {65536 + 300, 44, 300},
            {LEAST, 0, 0}, {MOST, -1, -1}, {0x12345678, 0x78, 0x5678}, {0x1234ff80, -128, -128}};
        for (int[] row : rows) {
            RoadRiver x = new RoadRiver();
            for (int form = 0; form < 3; form++) {
                x.sheet(form, form, 3);
                check.due("lay " + row[0], x.lay(form, form, 1, row[0]), 1);
            }
            items("byte of " + row[0], x, 0, 0, 0, row[1], 0);
            items("short of " + row[0], x, 1, 1, 0, row[2], 0);
            items("int of " + row[0], x, 2, 2, 0, row[0], 0);
        }
    }

    private static void layRefuses() {
        check.says("BAD; NULL; CAST; INDEX.");
        RoadRiver x = new RoadRiver();
        Check.lay(x, 1, 1, 5, 6);
        int[][] bad = {{-1, 1}, {4, 1}, {LEAST, 1}, {MOST, 1}, {1, -1}, {1, 3}, {1, LEAST}, {1, MOST}, {0, 3}, {0, -1}};
        for (int[] w : bad) {
            check.due("lay " + w[0] + " " + w[1], x.lay(w[0], w[1], 0, 9), BAD);
            check.due("lay " + w[0] + " " + w[1], x.lay(w[0], w[1], 2, 9), BAD);
        }
        check.due("BAD is no finding", x.count(8), 0);
        int[] places = {-1, 0, 1, 2, LEAST, MOST};
        for (int i : places) {
            check.due("NULL, item " + i, x.lay(0, 1, i, 9), NULL);
            check.due("finding", x.count(8), 1);
            check.due("CAST, item " + i, x.lay(1, 0, i, 9), CAST);
            check.due("CAST, item " + i, x.lay(1, 2, i, 9), CAST);
            check.due("finding", x.count(8), 3);
        }
        int[] outside = {-1, 2, 60, LEAST, MOST};
        for (int i : outside) {
            check.due("INDEX, item " + i, x.lay(1, 1, i, 9), INDEX);
            check.due("finding", x.count(8), 2);
        }
        items("as they were", x, 1, 1, 5, 6);
    }

    private static void getTellsByItsFinding() {
        check.says("Item i of it. BAD: the least int; so are NULL, CAST, INDEX (count() 8 tells).");
        RoadRiver x = new RoadRiver();
        Check.lay(x, 2, 2, LEAST, MOST);
        int[][] bad = {{-1, 2}, {4, 2}, {LEAST, 2}, {MOST, 2}, {2, -1}, {2, 3}, {2, LEAST}, {2, MOST}, {0, 3}};
        for (int[] w : bad) {
            check.due("get " + w[0] + " " + w[1], x.get(w[0], w[1], 0), LEAST);
        }
        check.due("BAD is no finding", x.count(8), 0);
        check.due("an item may be the least int", x.get(2, 2, 0), LEAST);
        check.due("that is no finding", x.count(8), 0);
        check.due("the last item", x.get(2, 2, 1), MOST);
        int[] places = {-1, 0, 1, 2, LEAST, MOST};
        for (int i : places) {
            check.due("NULL", x.get(0, 2, i), LEAST);
            check.due("NULL", x.count(8), 1);
            check.due("CAST", x.get(2, 1, i), LEAST);
            check.due("CAST", x.count(8), 3);
            boolean isThere = i == 0 || i == 1;
            check.due("INDEX", x.get(2, 2, i), i == 1 ? MOST : LEAST);
            check.due("INDEX", x.count(8), isThere ? 3 : 2);
        }
    }

    private static void theEndsOfARow() {
        check.says("2 INDEX: there is no such item");
        RoadRiver x = new RoadRiver();
        x.sheet(0, 0, 0);
        check.due("an empty row has none", x.get(0, 0, 0), LEAST);
        check.due("INDEX", x.count(8), 2);
        check.due("an empty row has none", x.lay(0, 0, 0, 1), INDEX);
        x.sheet(0, 0, 60);
        check.due("the first", x.lay(0, 0, 0, 1), 1);
        check.due("the last", x.lay(0, 0, 59, 2), 1);
        check.due("one more", x.lay(0, 0, 60, 3), INDEX);
        check.due("one less", x.lay(0, 0, -1, 3), INDEX);
        x.sheet(0, 0, 2);
        check.due("a shorter row", x.lay(0, 0, 2, 3), INDEX);
    }

    private static void copyWithinOneSheet() {
        check.says("n items of SHEET s, from i on, come to SHEET t (perhaps s, as they were), from j on: 1");
        for (int form = 0; form < 3; form++) {
            for (int i = 0; i <= 5; i++) {
                for (int j = 0; j <= 5; j++) {
                    RoadRiver x = new RoadRiver();
                    Check.lay(x, form, form, 1, 2, 3, 4, 5);
                    int n = 5 - Math.max(i, j);
                    check.due("copy " + i + " to " + j, x.copy(form, i, form, j, n), 1);
                    check.due("one more", x.copy(form, i, form, j, n + 1), INDEX);
                    for (int k = 0; k < 5; k++) {
                        int due = k >= j && k < j + n ? i + k - j + 1 : k + 1;
                        check.due("copy " + i + " to " + j + ", item " + k, x.get(form, form, k), due);
                    }
                }
            }
        }
    }

    private static void copyToItsEnds() {
        check.says("n items of SHEET s, from i on, come to SHEET t (perhaps s, as they were), from j on: 1");
        RoadRiver x = new RoadRiver();
        Check.lay(x, 0, 1, 1, 2, 3);
        Check.lay(x, 3, 1, 7, 8, 9, 10);
        check.due("all to the end", x.copy(0, 0, 3, 1, 3), 1);
        items("all to the end", x, 3, 1, 7, 1, 2, 3);
        items("they stay", x, 0, 1, 1, 2, 3);
        check.due("one behind that", x.copy(0, 0, 3, 2, 3), INDEX);
        check.due("one more than there are", x.copy(0, 0, 3, 0, 4), INDEX);
        check.due("the last one to the first place", x.copy(0, 2, 3, 0, 1), 1);
        items("the last one", x, 3, 1, 3, 1, 2, 3);
        check.due("two from the last one", x.copy(0, 2, 3, 0, 2), INDEX);
        items("as they were", x, 3, 1, 3, 1, 2, 3);
    }

    private static void copyUpToSixty() {
        check.says("n items of SHEET s, from i on, come to SHEET t");
        RoadRiver x = new RoadRiver();
        x.sheet(1, 2, 60);
        x.sheet(2, 2, 60);
        for (int i = 0; i < 60; i++) {
            x.lay(1, 2, i, i * i - 99);
        }
        check.due("61", x.copy(1, 0, 2, 0, 61), INDEX);
        check.due("60", x.copy(1, 0, 2, 0, 60), 1);
        for (int i = 0; i < 60; i++) {
            check.due("item " + i, x.get(2, 2, i), i * i - 99);
        }
        check.due("59 within one", x.copy(2, 0, 2, 1, 59), 1);
        for (int i = 0; i < 60; i++) {
            check.due("item " + i, x.get(2, 2, i), Math.max(i - 1, 0) * Math.max(i - 1, 0) - 99);
        }
    }

    private static void copyOfNothing() {
        check.says("INDEX: below 0, not so many (with n 0, too, if i or j is above how many there are)");
        RoadRiver x = new RoadRiver();
        Check.lay(x, 0, 0, 1, 2);
        Check.lay(x, 1, 0, 3, 4, 5);
        x.sheet(2, 0, 0);
        check.due("amid", x.copy(0, 1, 1, 1, 0), 1);
        check.due("at both ends", x.copy(0, 2, 1, 3, 0), 1);
        check.due("i above", x.copy(0, 3, 1, 3, 0), INDEX);
        check.due("j above", x.copy(0, 2, 1, 4, 0), INDEX);
        check.due("i far above", x.copy(0, MOST, 1, 0, 0), INDEX);
        check.due("j far above", x.copy(0, 0, 1, MOST, 0), INDEX);
        check.due("i below", x.copy(0, -1, 1, 0, 0), INDEX);
        check.due("j below", x.copy(0, 0, 1, -1, 0), INDEX);
        check.due("of an empty one", x.copy(2, 0, 2, 0, 0), 1);
        check.due("of an empty one", x.copy(2, 1, 2, 0, 0), INDEX);
        check.due("of an empty one", x.copy(2, 0, 2, 1, 0), INDEX);
        check.due("to an empty one", x.copy(0, 0, 2, 0, 1), INDEX);
        check.due("from an empty one", x.copy(2, 0, 0, 0, 1), INDEX);
        items("as they were", x, 0, 0, 1, 2);
        items("as they were", x, 1, 0, 3, 4, 5);
    }

    private static void copyRefuses() {
        check.says("BAD: the SHEETS; NULL: s, t; STORE; INDEX: below 0, not so many");
        RoadRiver x = new RoadRiver();
        Check.lay(x, 0, 0, 1, 2);
        Check.lay(x, 1, 1, 3, 4);
        Check.lay(x, 2, 2, 5, 6);
        int[] wrong = {-1, 4, LEAST, MOST};
        for (int w : wrong) {
            check.due("s " + w, x.copy(w, 0, 0, 0, 1), BAD);
            check.due("t " + w, x.copy(0, 0, w, 0, 1), BAD);
            check.due("s and t " + w, x.copy(w, 9, w, 9, 9), BAD);
        }
        check.due("BAD is no finding", x.count(8), 0);
        check.due("s is lost", x.copy(3, 0, 0, 0, 1), NULL);
        check.due("t is lost", x.copy(0, 0, 3, 0, 1), NULL);
        check.due("both are", x.copy(3, 0, 3, 0, 1), NULL);
        check.due("finding", x.count(8), 1);
        for (int s = 0; s < 3; s++) {
            for (int t = 0; t < 3; t++) {
                check.due("forms " + s + " and " + t, x.copy(s, 0, t, 0, 0), s == t ? 1 : STORE);
            }
        }
        check.due("finding", x.count(8), 4);
        check.due("n below 0", x.copy(0, 0, 0, 0, -1), INDEX);
        check.due("n below 0, at the ends", x.copy(0, 2, 0, 2, -1), INDEX);
        check.due("n far below 0", x.copy(0, 0, 0, 0, LEAST), INDEX);
        check.due("finding", x.count(8), 2);
        items("as they were", x, 0, 0, 1, 2);
        items("as they were", x, 1, 1, 3, 4);
        items("as they were", x, 2, 2, 5, 6);
    }

    private static void copyWrapsNowhere() {
        check.says("INDEX: below 0, not so many");
        RoadRiver x = new RoadRiver();
        Check.lay(x, 0, 2, 1, 2, 3);
        int[] numbers = {LEAST, LEAST + 1, -2, -1, 4, 61, MOST - 1, MOST};
        for (int a : numbers) {
            for (int b : numbers) {
                check.due("i " + a + ", n " + b, x.copy(0, a, 0, 0, b), INDEX);
                check.due("j " + a + ", n " + b, x.copy(0, 0, 0, a, b), INDEX);
                check.due("i " + a + ", j " + b, x.copy(0, a, 0, b, 1), INDEX);
                check.due("i " + a + ", j and n " + b, x.copy(0, a, 0, b, b), INDEX);
            }
            check.due("i 1, n " + a, x.copy(0, 1, 0, 0, a), INDEX);
            check.due("j 1, n " + a, x.copy(0, 0, 0, 1, a), INDEX);
        }
        items("as they were", x, 0, 2, 1, 2, 3);
    }

    private static void copyInOrder() {
        check.says("Refusals, the first that fits, in the order told at each act");
        RoadRiver x = new RoadRiver();
        Check.lay(x, 0, 0, 1, 2);
        Check.lay(x, 1, 1, 3, 4);
        check.due("BAD ahead of NULL: t", x.copy(3, 0, 4, 0, 1), BAD);
        check.due("BAD ahead of NULL: s", x.copy(-1, 0, 3, 0, 1), BAD);
        check.due("BAD ahead of INDEX", x.copy(0, -1, 4, -1, -1), BAD);
        check.due("NULL ahead of INDEX: s", x.copy(3, -1, 0, -1, -1), NULL);
        check.due("NULL ahead of INDEX: t", x.copy(0, -1, 3, -1, -1), NULL);
        check.due("STORE ahead of INDEX", x.copy(0, -1, 1, -1, -1), STORE);
        check.due("STORE ahead of INDEX", x.copy(1, 3, 0, 0, 1), STORE);
        check.due("STORE with nothing", x.copy(1, 0, 0, 0, 0), STORE);
        check.due("INDEX", x.copy(1, 3, 1, 0, 1), INDEX);
    }

    private static void writeAsManyAsThereAre() {
        check.says("from item 0 on, as many as there are items and YARDS: how many");
        for (int yards = 0; yards <= 12; yards++) {
            for (int n = 0; n <= 13; n++) {
                RoadRiver x = Check.valley("0".repeat(yards), "9999");
                x.sheet(3, n % 3, n);
                for (int i = 0; i < n; i++) {
                    x.lay(3, n % 3, i, 70 + i);
                }
                int many = Math.min(yards, n);
                check.due(yards + " yards, " + n + " items", x.write(0, 3), many);
                for (int i = 0; i < n; i++) {
                    check.due("item " + i, x.get(3, n % 3, i), i < many ? 4 : 70 + i);
                }
                check.due("as many items as there were", x.lose(3), n);
            }
        }
        RoadRiver x = Check.valley("0".repeat(12), "9");
        x.sheet(0, 0, 60);
        check.due("sixty items", x.write(0, 0), 12);
    }

    private static void writeClosed() {
        check.says("CLOSED of YARDS 0 on in a SPRING comes to a SHEET (of each the lowest bits that an item has, with "
                + "its sign)");
        RoadRiver x = Check.valley("048", "9".repeat(30), "6699", "");
        for (int form = 0; form < 3; form++) {
            x.sheet(form, form, 4);
            check.due("spring 0", x.write(0, form), 3);
            items("spring 0", x, form, form, 30, 30, 30, 0);
            check.due("spring 1", x.write(1, form), 3);
            items("spring 1", x, form, form, 4, 4, 2, 0);
            check.due("spring 2", x.write(2, form), 3);
            items("spring 2", x, form, form, 0, 0, 0, 0);
        }
        x.dike(0, 1, 1);
        x.write(1, 0);
        items("with a dike", x, 0, 0, 1, 1, 2, 0);
        x.type(3, 'x');
        check.due("a road with a fault", x.write(0, 0), 0);
        items("as they were", x, 0, 0, 1, 1, 2, 0);
    }

    private static void writeRefuses() {
        check.says("BAD; NULL.");
        RoadRiver x = Check.valley("00", "9", "9", "9");
        int[] noSpring = {-1, 3, LEAST, MOST};
        int[] noSheet = {-1, 4, LEAST, MOST};
        for (int n = 0; n < 4; n++) {
            check.due("BAD ahead of NULL: spring", x.write(noSpring[n], 0), BAD);
            check.due("sheet", x.write(0, noSheet[n]), BAD);
        }
        check.due("BAD is no finding", x.count(8), 0);
        check.due("lost", x.write(2, 3), NULL);
        check.due("finding", x.count(8), 1);
        Check.lay(x, 3, 0, 7, 8);
        for (int n = 0; n < 4; n++) {
            check.due("spring", x.write(noSpring[n], 3), BAD);
        }
        items("as they were", x, 3, 0, 7, 8);
        check.due("good", x.write(2, 3), 2);
        items("closed", x, 3, 0, 1, 1);
    }

    private static void findings() {
        check.says("FINDINGS (answers -10 less the number; they change nothing but count() 8): 1 NULL, 2 INDEX, 3 CAST, "
                + "4 STORE, 5 SIZE");
        RoadRiver x = Check.valley("0", "9");
        Check.lay(x, 0, 0, 5);
        Check.lay(x, 1, 1, 6);
        check.due("0 before any", x.count(8), 0);
        check.due("1", x.lose(3), -11);
        check.due("1", x.count(8), 1);
        check.due("2", x.lay(0, 0, 1, 0), -12);
        check.due("2", x.count(8), 2);
        check.due("3", x.lay(0, 1, 0, 0), -13);
        check.due("3", x.count(8), 3);
        check.due("4", x.copy(0, 0, 1, 0, 1), -14);
        check.due("4", x.count(8), 4);
        check.due("5", x.sheet(0, 0, -1), -15);
        check.due("5", x.count(8), 5);
        check.due("1 again", x.write(0, 2), -11);
        check.due("1 again", x.count(8), 1);
        x.get(0, 2, 0);
        check.due("by get", x.count(8), 3);
        x.breaks();
        x.type(4, 0);
        x.get(0, 3, 0);
        x.get(0, 0, 0);
        x.sheet(2, 2, 2);
        check.due("other refusals and good calls leave it", x.count(8), 3);
        items("as they were", x, 0, 0, 5);
        items("as they were", x, 1, 1, 6);
    }
}
