/** Promises 30 to 35: sheets and their findings. */
public final class SheetsTest {
    private static final int BAD = RoadRiver.BAD;
    private static final int NULL = -11, INDEX = -12, CAST = -13, STORE = -14, SIZE = -15;
    private static final int LEAST = Integer.MIN_VALUE;

    private static final Check check = new Check();

    public static void main(String[] args) {
        sheet();
        lose();
        lay();
        get();
        copy();
        copyRefused();
        write();
        check.end();
    }

    private static void sheet() {
        RoadRiver x = new RoadRiver();
        check.due("30 none", x.sheet(0, 0, 0), 0);
        check.due("30 most", x.sheet(3, 2, 60), 60);
        check.due("30 above 60", x.sheet(3, 2, 61), BAD);
        check.due("30 above 60", x.sheet(3, 2, Integer.MAX_VALUE), BAD);
        check.due("30 sheet", x.sheet(4, 2, 1), BAD);
        check.due("30 sheet ahead of size", x.sheet(-1, 2, -1), BAD);
        check.due("30 form ahead of size", x.sheet(0, 3, -1), BAD);
        check.due("30 form", x.sheet(0, -1, 1), BAD);
        check.due("30 no finding yet", x.count(8), 0);
        x.lay(3, 2, 59, 77);
        check.due("30 size", x.sheet(3, 0, -1), SIZE);
        check.due("30 size", x.sheet(3, 0, LEAST), SIZE);
        check.due("30 finding", x.count(8), 5);
        check.due("30 unchanged", x.get(3, 2, 59), 77);
        check.due("30 anew", x.sheet(3, 2, 60), 60);
        check.due("30 of zeros", x.get(3, 2, 59), 0);
        x.lay(3, 2, 0, 78);
        x.sheet(3, 1, 2);
        check.due("30 of zeros", x.get(3, 1, 0), 0);
    }

    private static void lose() {
        RoadRiver x = new RoadRiver();
        x.sheet(1, 1, 7);
        check.due("31 lose", x.lose(1), 7);
        check.due("31 lost", x.lose(1), NULL);
        check.due("31 finding", x.count(8), 1);
        check.due("31 lost at first", x.lose(0), NULL);
        x.sheet(1, 0, 0);
        check.due("31 empty, not lost", x.lose(1), 0);
        check.due("31 sheet", x.lose(4), BAD);
        check.due("31 sheet", x.lose(-1), BAD);
    }

    private static void lay() {
        RoadRiver x = new RoadRiver();
        int[] values = {0, 1, -1, 127, 128, 255, 256, 32767, 32768, 65535, 65536, LEAST, Integer.MAX_VALUE};
        for (int v : values) {
            x.sheet(0, 0, 1);
            x.sheet(1, 1, 1);
            x.sheet(2, 2, 1);
            for (int form = 0; form < 3; form++) {
                check.due("32 lay", x.lay(form, form, 0, v), 1);
            }
            check.due("32 byte", x.get(0, 0, 0), (byte) v);
            check.due("32 short", x.get(1, 1, 0), (short) v);
            check.due("32 int", x.get(2, 2, 0), v);
        }
        check.due("32 sheet", x.lay(4, 0, 0, 0), BAD);
        check.due("32 form", x.lay(0, 3, 0, 0), BAD);
        check.due("32 form", x.lay(0, -1, 0, 0), BAD);
        check.due("32 form ahead of lost", x.lay(3, 3, 0, 0), BAD);
        check.due("32 lost", x.lay(3, 0, 0, 0), NULL);
        check.due("32 cast ahead of index", x.lay(0, 1, 9, 0), CAST);
        check.due("32 finding", x.count(8), 3);
        check.due("32 index", x.lay(0, 0, 1, 0), INDEX);
        check.due("32 index", x.lay(0, 0, -1, 0), INDEX);
        check.due("32 finding", x.count(8), 2);
    }

    private static void get() {
        RoadRiver x = new RoadRiver();
        Check.lay(x, 0, 1, 5, -6);
        check.due("33 get", x.get(0, 1, 1), -6);
        check.due("33 sheet", x.get(4, 1, 1), LEAST);
        check.due("33 form", x.get(0, 3, 1), LEAST);
        check.due("33 bad is no finding", x.count(8), 0);
        check.due("33 index", x.get(0, 1, 2), LEAST);
        check.due("33 index", x.count(8), 2);
        check.due("33 cast", x.get(0, 0, 2), LEAST);
        check.due("33 cast", x.count(8), 3);
        check.due("33 lost", x.get(1, 0, 2), LEAST);
        check.due("33 lost", x.count(8), 1);
        check.due("33 index", x.get(0, 1, LEAST), LEAST);
        check.due("33 index", x.count(8), 2);
        check.due("33 the latest stays", x.get(0, 1, 0), 5);
        check.due("33 the latest stays", x.count(8), 2);
    }

    private static void items(String what, RoadRiver x, int s, int form, int... due) {
        for (int i = 0; i < due.length; i++) {
            check.due("34 " + what + ", item " + i, x.get(s, form, i), due[i]);
        }
    }

    private static void copy() {
        RoadRiver x = new RoadRiver();
        Check.lay(x, 0, 0, 1, 2, 3, 4, 5);
        Check.lay(x, 1, 0, 9, 8, 7);
        check.due("34 copy", x.copy(0, 3, 1, 0, 2), 1);
        items("copy", x, 1, 0, 4, 5, 7);
        check.due("34 forward, as they were", x.copy(0, 0, 0, 1, 4), 1);
        items("forward", x, 0, 0, 1, 1, 2, 3, 4);
        check.due("34 back, as they were", x.copy(0, 1, 0, 0, 4), 1);
        items("back", x, 0, 0, 1, 2, 3, 4, 4);
        check.due("34 nothing at the end", x.copy(0, 5, 1, 3, 0), 1);
        check.due("34 all", x.copy(1, 0, 0, 2, 3), 1);
        items("all", x, 0, 0, 1, 2, 4, 5, 7);
    }

    private static void copyRefused() {
        RoadRiver x = new RoadRiver();
        Check.lay(x, 0, 0, 1, 2, 3, 4, 5);
        Check.lay(x, 1, 0, 9, 8, 7);
        x.sheet(2, 1, 2);
        check.due("34 sheet", x.copy(4, 0, 0, 0, 0), BAD);
        check.due("34 sheet ahead of lost", x.copy(3, 0, -1, 0, 0), BAD);
        check.due("34 lost s", x.copy(3, 0, 0, 0, 0), NULL);
        check.due("34 lost t", x.copy(0, 9, 3, 0, 0), NULL);
        check.due("34 store ahead of index", x.copy(0, 9, 2, 0, 1), STORE);
        check.due("34 finding", x.count(8), 4);
        int[][] places = {{-1, 0, 0}, {0, -1, 0}, {0, 0, -1}, {6, 0, 0}, {0, 4, 0}, {5, 0, 1}, {0, 3, 1},
            {0, 0, 4}, {3, 0, 3}, {0, 1, 3}, {1, 1, Integer.MAX_VALUE}, {Integer.MAX_VALUE, 0, 1},
            {0, Integer.MAX_VALUE, Integer.MAX_VALUE}, {LEAST, LEAST, LEAST}};
        for (int[] p : places) {
            check.due("34 index " + p[0] + " " + p[1] + " " + p[2], x.copy(0, p[0], 1, p[1], p[2]), INDEX);
        }
        check.due("34 finding", x.count(8), 2);
        items("unchanged", x, 1, 0, 9, 8, 7);
    }

    private static void write() {
        RoadRiver x = Check.valley("03", "999999", "5");
        check.due("35 lost", x.write(0, 0), NULL);
        Check.lay(x, 0, 2, 70, 71, 72);
        check.due("35 as many as yards", x.write(0, 0), 2);
        items("35 write", x, 0, 2, 6, 6, 72);
        Check.lay(x, 1, 0, 5);
        check.due("35 as many as items", x.write(1, 1), 1);
        items("35 write", x, 1, 0, 1);
        x.sheet(2, 1, 0);
        check.due("35 no items", x.write(0, 2), 0);
        x.wipe(3);
        check.due("35 no yards", x.write(0, 0), 0);
        check.due("35 spring", x.write(3, 0), BAD);
        check.due("35 spring ahead of lost", x.write(-1, 3), BAD);
        check.due("35 sheet", x.write(0, 4), BAD);
        check.due("35 sheet", x.write(0, -1), BAD);
    }
}
