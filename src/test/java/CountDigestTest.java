/** Promises 36 and 37: counts and the digest. */
public final class CountDigestTest {
    private static final int BAD = RoadRiver.BAD;

    private static final Check check = new Check();

    public static void main(String[] args) {
        count();
        digestOfNew();
        digestTells();
        digestLeaves();
        check.end();
    }

    private static void count() {
        RoadRiver x = Check.valley("123", "1", "22", "4444");
        x.dike(0, 1, 2);
        x.contract(2, 0, 0, 0);
        x.contract(6, 0, 0, 0);
        for (int n = 0; n < 5; n++) {
            x.fact(n, n, 1);
        }
        x.odds(0, 99);
        x.odds(2, 0);
        int[] due = {3, 1, 2, 4, 1, 2, 5, 100, 0};
        for (int what = 0; what < due.length; what++) {
            check.due("36 count " + what, x.count(what), due[what]);
        }
        x.lose(0);
        check.due("36 finding", x.count(8), 1);
        x.lose(7);
        check.due("36 bad is no finding", x.count(8), 1);
        x.type(3, 'a');
        x.type(1, 'a');
        check.due("36 road with a fault", x.count(0), 0);
        check.due("36 spring with a fault", x.count(2), 0);
        check.due("36 what", x.count(9), BAD);
        check.due("36 what", x.count(-1), BAD);
        check.due("36 what", x.count(Integer.MAX_VALUE), BAD);
    }

    /** The calls of the document, on an object without a road, written out. */
    private static void digestOfNew() {
        long h = 17;
        long bad = Long.MIN_VALUE + 2;
        long[] spring = {-1, 0, 0, -2, -2, -2, 0, 0, 0, bad, bad, -2, -2, -2, -2, -2};
        long[][] rows = {{0, 0, 0, 0, 0, 0, 0, 3}, {-1, -1, -1, -1}, spring, spring, spring,
            {1, 0, 0, 1, 0, 7}};
        for (long[] row : rows) {
            for (long v : row) {
                h = 31 * h + v;
            }
        }
        check.due("37 new", new RoadRiver().digest(), h);
    }

    private static void digestTells() {
        RoadRiver x = Check.valley("04040", "0135", "0136", "0");
        long before = x.digest();
        check.due("37 again", x.digest(), before);
        x.set(6, 2);
        x.dike(0, 3, 1);
        check.isTrue("37 another state", x.digest() != before);
        x.set(6, 1);
        x.breaks();
        check.due("37 the same state", x.digest(), before);
    }

    private static void digestLeaves() {
        RoadRiver x = Check.valley("0", "5");
        x.lose(0);
        x.digest();
        check.due("37 no finding", x.count(8), 1);
        x.sheet(0, 2, 5);
        long before = x.digest();
        x.lay(0, 2, 0, 5);
        x.lay(0, 2, 9, 5);
        check.due("37 sheets are not in it", x.digest(), before);
    }
}
