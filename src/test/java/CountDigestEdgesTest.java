import java.math.BigInteger;
import java.util.ArrayList;
import java.util.List;
import java.util.Random;

/** Promises 36 and 37: each sentence with a boundary. */
public final class CountDigestEdgesTest {
    private static final int BAD = RoadRiver.BAD;
    private static final int LEAST = Integer.MIN_VALUE;
    private static final int MOST = Integer.MAX_VALUE;
    private static final long BAD_LONG = Long.MIN_VALUE + 2;
    private static final long NOT_LONG = Long.MIN_VALUE + 3;

    private static final Check check = new Check();

    public static void main(String[] args) {
        countsEmptyAndFull();
        countsWithFaults();
        countRefuses();
        digestOfRoads();
        digestOfManyValleys();
        digestWrittenOut();
        digestWithRefusals();
        digestTellsEachThing();
        digestLeavesAllAsItWas();
        check.end();
    }

    private static void counts(String what, RoadRiver x, int... due) {
        for (int i = 0; i < due.length; i++) {
            check.due(what + ", count " + i, x.count(i), due[i]);
        }
    }

    private static void countsEmptyAndFull() {
        check.says("0 YARDS, 1 to 3 DAYS told of SPRINGS 0 to 2, 4 DIKES, 5 CONTRACTS, 6 FACTS, 7 all ODDS, 8 the number "
                + "of the latest FINDING (0 before any)");
        RoadRiver x = new RoadRiver();
        counts("empty", x, 0, 0, 0, 0, 0, 0, 0, 3, 0);
        for (int n = 0; n < 31; n++) {
            for (int text = 0; text < 4; text++) {
                x.type(text, '0' + n % 10);
            }
        }
        for (int n = 0; n < 9; n++) {
            x.dike(n, n, n);
            x.contract(n, n, n, n);
            x.fact(n, n, 0);
        }
        for (int spring = 0; spring < 3; spring++) {
            x.odds(spring, 99);
        }
        counts("full", x, 12, 30, 30, 30, 8, 8, 8, 297, 0);
        x.undo(3);
        x.undo(0);
        x.wipe(1);
        x.breaks();
        x.tears(0);
        x.forget();
        x.odds(2, 0);
        x.sheet(0, 0, -1);
        counts("less", x, 11, 29, 0, 30, 7, 7, 0, 198, 5);
        for (int spring = 0; spring < 3; spring++) {
            x.odds(spring, 0);
        }
        counts("no odds", x, 11, 29, 0, 30, 7, 7, 0, 0, 5);
    }

    private static void countsWithFaults() {
        check.says("with a FAULT it is as if it was empty");
        for (int text = 0; text < 4; text++) {
            RoadRiver x = Check.valley("1234", "1", "12", "123");
            int what = text == 3 ? 0 : text + 1;
            int had = x.count(what);
            x.type(text, 'x');
            check.due("with a fault", x.count(what), 0);
            check.due("another text", x.count((what + 1) % 4), what == 3 ? 4 : what + 1);
            x.type(text, '5');
            check.due("with a fault, and more", x.count(what), 0);
            x.undo(text);
            x.undo(text);
            check.due("without it", x.count(what), had);
        }
    }

    private static void countRefuses() {
        check.says("BAD.");
        RoadRiver x = new RoadRiver();
        int[] wrong = {-1, 9, 10, LEAST, MOST};
        for (int what : wrong) {
            check.due("count " + what, x.count(what), BAD);
        }
        check.due("the last one", x.count(8), 0);
    }

    private static long wrapped(List<Long> told) {
        BigInteger h = BigInteger.valueOf(17);
        for (long v : told) {
            h = h.multiply(BigInteger.valueOf(31)).add(BigInteger.valueOf(v));
        }
        return h.longValue();
    }

    private static void add(List<Long> told, long... rows) {
        for (long v : rows) {
            told.add(v);
        }
    }

    private static long byCalls(RoadRiver x, int yards) {
        List<Long> told = new ArrayList<>();
        for (int what = 0; what < 8; what++) {
            add(told, x.count(what));
        }
        add(told, x.fault(0), x.fault(1), x.fault(2), x.fault(3));
        for (int yard = 0; yard < yards; yard++) {
            add(told, x.height(yard));
        }
        for (int s = 0; s < 3; s++) {
            add(told, x.possession(s), x.water(s, 5, 0), x.water(s, 5, 1));
            add(told, x.cost(s, 5, 0, 3, 0), x.cost(s, 5, 0, 3, 1), x.cost(s, 5, 0, 3, 2));
            add(told, x.deed(s, 0), x.deed(s, 1), x.deed(s, 2));
            add(told, x.waits(s, 4, 0, 2, 0), x.waits(s, 4, 0, 2, 1), x.goes(s, 4, 0, 2));
            add(told, x.keep(s, 5, 0, 4, 2, 0), x.keep(s, 5, 0, 4, 2, 1), x.keep(s, 5, 0, 4, 2, 2), x.closed(s, 0));
        }
        add(told, x.never(0), x.never(1), x.gain(0), x.gain(1), x.watch(), x.fit());
        return wrapped(told);
    }

    private static void digestOfRoads() {
        check.says("of YARDS height(); of SPRINGS .. (as it is told); as longs that wrap");
        for (int yards = 0; yards <= 12; yards++) {
            RoadRiver x = Check.valley("120413205102".substring(0, yards), "00135432", "001355511", "0012");
            x.contract(1, 3, 7, 2);
            x.odds(2, 0);
            check.due(yards + " yards", x.digest(), byCalls(x, yards));
        }
    }

    /** So many that each number in the calls that are told matters in one of them. */
    private static void digestOfManyValleys() {
        check.says("water() on DAY 5 0, 1, cost(it, 5, 0, 3, 0 to 2), waits(it, 4, 0, 2), goes(it, 4, 0, 2), keep(it, 5, "
                + "0, 4, 2, 0 to 2), closed(it, 0)");
        Random random = new Random(1);
        for (int n = 0; n < 400; n++) {
            String common = figures(random, 3 + random.nextInt(3), 4);
            RoadRiver x = Check.valley(figures(random, 5 + random.nextInt(8), 7), common + figures(random, 7, 9),
                    common + figures(random, 7, 9), common + figures(random, 7, 9));
            x.set(2, 2 + random.nextInt(30));
            x.set(3, 1 + random.nextInt(9));
            x.set(6, random.nextInt(4));
            for (int spring = 0; spring < 3; spring++) {
                x.odds(spring, random.nextInt(6));
            }
            x.dike(0, random.nextInt(3), random.nextInt(8));
            x.contract(n % 8, random.nextInt(8), random.nextInt(50), random.nextInt(9));
            x.contract(7, 29, random.nextInt(50), random.nextInt(9));
            x.fact(random.nextInt(9), random.nextInt(5), random.nextInt(2));
            check.due("valley " + n, x.digest(), byCalls(x, x.count(0)));
        }
    }

    private static String figures(Random random, int many, int most) {
        StringBuilder row = new StringBuilder();
        for (int i = 0; i < many; i++) {
            row.append((char) ('0' + random.nextInt(most)));
        }
        return row.toString();
    }

    /** Each number of it by hand: three yards, so that cost and keep are refused and waits is not. */
    private static void digestWrittenOut() {
        check.says("h is 17; h becomes 31 h and each of ..");
        RoadRiver x = Check.valley("304", "000004", "00x", "555555555555555555555555555555");
        x.odds(0, 2);
        x.dike(2, 2, 9);
        x.contract(0, 0, 9, 0);
        x.contract(6, 29, 1, 1);
        x.fact(5, 0, 1);
        List<Long> told = new ArrayList<>();
        add(told, 3, 6, 0, 30, 1, 2, 1, 4);
        add(told, -1, 2, -1, -1);
        add(told, 3, 0, 4);
        // spring 0, day 5: yards 0 and 1 are wet; on day 4 it is alike with spring 1, and dry: 3
        add(told, 5, 3, 0, -2, -2, -2, 2, 1, -2, 3, 1, 1, -2, -2, -2, 1);
        add(told, -1, 0, 0, -2, -2, -2, 0, 0, 0, 3, 1, 1, -2, -2, -2, 0);
        // spring 2: all wet, but yard 2 for a week: 83 less 120; 5 by the ferry on each day
        add(told, 0, 7, 0, -2, -2, -2, 83, 30, -37, 5, 1, 1, -2, -2, -2, 30);
        // 9 in spring 2 alone: 9 by 4; with 6 spring 1 would lose 1; on day 5 there are 4, 0 and 5
        add(told, 2, 1, 9, 4, 5, 5);
        check.due("digest", x.digest(), wrapped(told));
    }

    private static void digestWithRefusals() {
        check.says("waits(it, 4, 0, 2), above, below, goes(it, 4, 0, 2) (as they are told)");
        RoadRiver x = Check.valley("000", "", "", "");
        for (int spring = 0; spring < 3; spring++) {
            x.odds(spring, 0);
        }
        List<Long> told = new ArrayList<>();
        add(told, 3, 0, 0, 0, 0, 0, 0, 0, -1, -1, -1, -1, 0, 0, 0);
        for (int spring = 0; spring < 3; spring++) {
            add(told, -1, 0, 0, -2, -2, -2, 0, 0, 0, NOT_LONG, NOT_LONG, -3, -2, -2, -2, 0);
        }
        add(told, 1, 0, 0, 1, 0, 7);
        check.due("no odds", x.digest(), wrapped(told));
        x.undo(3);
        told.clear();
        add(told, 2, 0, 0, 0, 0, 0, 0, 0, -1, -1, -1, -1, 0, 0);
        for (int spring = 0; spring < 3; spring++) {
            add(told, -1, 0, 0, -2, -2, -2, 0, 0, 0, BAD_LONG, BAD_LONG, -2, -2, -2, -2, 0);
        }
        add(told, 1, 0, 0, 1, 0, 7);
        check.due("two yards", x.digest(), wrapped(told));
    }

    /** Each change is seen, and seen no more when it is taken back. */
    private static void digestTellsEachThing() {
        check.says("h becomes 31 h and each of ..");
        RoadRiver x = Check.valley("01020", "0023564", "0003546", "00036");
        long before = x.digest();
        for (int text = 0; text < 4; text++) {
            x.type(text, '3');
            check.isTrue("a byte more of text " + text, x.digest() != before);
            x.undo(text);
            check.due("undone", x.digest(), before);
        }
        for (int spring = 0; spring < 3; spring++) {
            x.odds(spring, 2);
            check.isTrue("odds of spring " + spring, x.digest() != before);
            x.odds(spring, 1);
        }
        for (int what = 0; what < 7; what++) {
            int was = x.set(what, 2);
            check.isTrue("what " + what, x.digest() != before);
            x.set(what, was);
            check.due("as it was", x.digest(), before);
        }
        x.dike(11, 11, 29);
        check.isTrue("a dike", x.digest() != before);
        x.breaks();
        x.contract(7, 0, 0, 99);
        check.isTrue("a contract", x.digest() != before);
        x.tears(7);
        x.fact(0, 11, 0);
        check.isTrue("a fact", x.digest() != before);
        x.forget();
        check.due("as it was", x.digest(), before);
    }

    private static void digestLeavesAllAsItWas() {
        check.says("count() 0 to 7 (not 8)");
        RoadRiver x = Check.valley("01", "9", "8", "7");
        x.dike(0, 0, 0);
        long before = x.digest();
        check.due("no finding by it", x.count(8), 0);
        x.lose(0);
        check.due("a finding is not in it", x.digest(), before);
        check.due("it stays", x.count(8), 1);
        x.sheet(0, 0, 3);
        x.lay(0, 0, 1, 9);
        check.due("sheets are not in it", x.digest(), before);
        counts("as it was", x, 2, 1, 1, 1, 1, 0, 0, 3, 1);
        check.due("as it was", x.get(0, 0, 1), 9);
    }
}
