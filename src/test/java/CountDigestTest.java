import java.util.ArrayList;
import java.util.List;

/** Promises 36 and 37: counts and the digest. */
public final class CountDigestTest {
    private static final int BAD = RoadRiver.BAD;

    private static final Check check = new Check();

    public static void main(String[] args) {
        count();
        digestOfNew();
        digestByCalls();
        digestTells();
        digestLeaves();
        check.end();
    }

    private static void count() {
        RoadRiver x = Check.valley("123", "1", "22", "4444");
        x.dike(0, 1, 2);
        x.contract(2, 0, 0, 0);
        x.contract(6, 0, 0, 0);
        for (int n = 0; n < 5; n++) {
            x.fact(n, n, 1);
        }
        x.odds(0, 99);
        x.odds(2, 0);
        int[] due = {3, 1, 2, 4, 1, 2, 5, 100, 0};
        for (int what = 0; what < due.length; what++) {
            check.due("36 count " + what, x.count(what), due[what]);
        }
        x.lose(0);
        check.due("36 finding", x.count(8), 1);
        x.lose(7);
        check.due("36 bad is no finding", x.count(8), 1);
        x.type(3, 'a');
        x.type(1, 'a');
        check.due("36 road with a fault", x.count(0), 0);
        check.due("36 spring with a fault", x.count(2), 0);
        check.due("36 what", x.count(9), BAD);
        check.due("36 what", x.count(-1), BAD);
        check.due("36 what", x.count(Integer.MAX_VALUE), BAD);
    }

    /** The calls of the document, on an object without a road, written out. */
    private static void digestOfNew() {
        long h = 17;
        long bad = Long.MIN_VALUE + 2;
        long[] spring = {-1, 0, 0, -2, -2, -2, 0, 0, 0, bad, bad, -2, -2, -2, -2, -2};
        long[][] rows = {{0, 0, 0, 0, 0, 0, 0, 3}, {-1, -1, -1, -1}, spring, spring, spring,
            {1, 0, 0, 1, 0, 7}};
        for (long[] row : rows) {
            for (long v : row) {
                h = 31 * h + v;
            }
        }
        check.due("37 new", new RoadRiver().digest(), h);
    }

    /** Of a valley in which each of the calls answers something else. */
    private static void digestByCalls() {
        RoadRiver x = Check.valley("1212124", "12431231", "124313000", "02450312");
        x.set(2, 4);
        x.set(4, 7);
        x.odds(1, 4);
        x.odds(2, 5);
        x.dike(1, 1, 4);
        x.contract(3, 2, 40, 3);
        x.contract(6, 29, 3, 1);
        x.fact(5, 0, 1);
        check.due("37 by calls", x.digest(), byCalls(x));
        x.set(6, 0);
        x.type(2, '!');
        x.odds(0, 0);
        check.due("37 by calls, with a fault", x.digest(), byCalls(x));
    }

    private static long byCalls(RoadRiver x) {
        List<Long> told = new ArrayList<>();
        for (int what = 0; what <= 7; what++) {
            told.add((long) x.count(what));
        }
        for (int text = 0; text < 4; text++) {
            told.add((long) x.fault(text));
        }
        for (int yard = 0; yard < x.count(0); yard++) {
            told.add((long) x.height(yard));
        }
        for (int s = 0; s < 3; s++) {
            long[] row = {x.possession(s), x.water(s, 5, 0), x.water(s, 5, 1),
                x.cost(s, 5, 0, 3, 0), x.cost(s, 5, 0, 3, 1), x.cost(s, 5, 0, 3, 2),
                x.deed(s, 0), x.deed(s, 1), x.deed(s, 2),
                x.waits(s, 4, 0, 2, 0), x.waits(s, 4, 0, 2, 1), x.goes(s, 4, 0, 2),
                x.keep(s, 5, 0, 4, 2, 0), x.keep(s, 5, 0, 4, 2, 1), x.keep(s, 5, 0, 4, 2, 2), x.closed(s, 0)};
            for (long v : row) {
                told.add(v);
            }
        }
        long[] last = {x.never(0), x.never(1), x.gain(0), x.gain(1), x.watch(), x.fit()};
        for (long v : last) {
            told.add(v);
        }
        long h = 17;
        for (long v : told) {
            h = 31 * h + v;
        }
        return h;
    }

    private static void digestTells() {
        RoadRiver x = Check.valley("04040", "0135", "0136", "0");
        long before = x.digest();
        check.due("37 again", x.digest(), before);
        x.set(6, 2);
        x.dike(0, 3, 1);
        check.isTrue("37 another state", x.digest() != before);
        x.set(6, 1);
        x.breaks();
        check.due("37 the same state", x.digest(), before);
    }

    private static void digestLeaves() {
        RoadRiver x = Check.valley("0", "5");
        x.lose(0);
        x.digest();
        check.due("37 no finding", x.count(8), 1);
        x.sheet(0, 2, 5);
        long before = x.digest();
        x.lay(0, 2, 0, 5);
        x.lay(0, 2, 9, 5);
        check.due("37 sheets are not in it", x.digest(), before);
    }
}
