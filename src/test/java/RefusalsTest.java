import java.util.ArrayList;
import java.util.List;

/**
 * Each refusal of each call, the order in which they are told, and that a refused call changes nothing
 * (a finding but count() 8): after it all that can be told of the object is as it is without it.
 */
public final class RefusalsTest {
    private static final int LEAST = Integer.MIN_VALUE;
    private static final int MOST = Integer.MAX_VALUE;
    private static final long LEAST_LONG = Long.MIN_VALUE;

    private static final Check check = new Check();

    /** Nothing is there. */
    private static final String NEW = "";

    /** Some of all is there: five yards, days of possession apart, a fault in spring 2; sheet 3 is lost. */
    private static final String HALF = "text 3 04140; text 0 0013562; text 1 0013455; text 2 99x9; set 0 2; set 1 20;"
            + "set 2 12; set 3 4; set 4 6; set 5 7; set 6 2; odds 0 3; odds 1 4; odds 2 0; dike 1 3 4; dike 0 0 12;"
            + "contract 1 2 40 5; contract 4 6 30 2; contract 6 29 9 1; fact 6 1 1; fact 2 3 0; sheet 0 0 3; lay 0 0 1 7;"
            + "lay 0 0 2 -7; sheet 1 1 4; lay 1 1 0 300; lay 1 1 3 -300; sheet 2 2 2; lay 2 2 0 70000; lay 2 2 1 9";

    /** As much of all as there may be. */
    private static final String FULL = "text 3 012345678901; text 0 012345678901234567890123456789; text 1 "
            + "9".repeat(30) + "; text 2 " + "3".repeat(30) + "; odds 0 99; odds 1 99; odds 2 99; dike 0 11 0; dike 1 2 3;"
            + "dike 3 5 7; dike 11 11 29; dike 0 0 20; dike 4 9 15; dike 2 2 24; dike 6 10 22; contract 0 0 9 1;"
            + "contract 1 1 9 1; contract 2 2 9 1; contract 3 3 9 1; contract 4 4 9 1; contract 5 29 9 1;"
            + "contract 6 9 99 98; contract 7 9 50 1; fact 0 0 0; fact 4 0 0; fact 5 0 1; fact 29 5 1; fact 29 6 0;"
            + "fact 9 11 0; fact 17 3 1; fact 5 5 1; sheet 0 0 60; lay 0 0 59 7; sheet 1 1 60; lay 1 1 0 9; sheet 2 2 60;"
            + "lay 2 2 30 -1; sheet 3 0 60; lay 3 0 5 5; lose 3; lose 3; sheet 3 2 60; lay 3 2 5 5";

    /** As some of all, but no spring may be. */
    private static final String NO_ODDS = HALF + "; odds 0 0; odds 1 0";

    private final String state;
    private final String name;
    private final int yards;
    private final List<List<Long>> without = new ArrayList<>();

    private RefusalsTest(String name, String state, int yards) {
        this.name = name;
        this.state = state;
        this.yards = yards;
        for (int part = 0; part < Reading.PARTS; part++) {
            without.add(Reading.of(new Calls().does(state), part));
        }
    }

    public static void main(String[] args) {
        RefusalsTest[] states = {new RefusalsTest("new", NEW, 0), new RefusalsTest("half", HALF, 5),
            new RefusalsTest("full", FULL, 12), new RefusalsTest("no odds", NO_ODDS, 5)};
        for (RefusalsTest s : states) {
            s.everyArgument();
        }
        states[0].ofNew();
        states[1].ofHalf();
        states[2].ofFull();
        states[3].ofNoOdds();
        check.end();
    }

    /** A call that is refused so, and leaves all as it was. */
    private void refused(String call, long due) {
        long finding = due <= -11 && due >= -15 ? -10 - due : 0;
        refused(call, due, finding);
    }

    private void refused(String call, long due, long finding) {
        for (int part = 0; part < Reading.PARTS; part++) {
            Calls calls = new Calls().does(state);
            check.due(name + ": " + call, calls.tells(call), due);
            List<Long> after = Reading.of(calls, part);
            List<Long> before = new ArrayList<>(without.get(part));
            if (part == 0 && finding != 0) {
                before.set(before.size() - 1, finding);
            }
            check.isTrue(name + ": " + call + " changes nothing (part " + part + "): " + before + after,
                    before.equals(after));
        }
    }

    private void good(String call, long refusal) {
        check.isTrue(name + ": " + call + " is not refused", new Calls().does(state).tells(call) != refusal);
    }

    /** Of each argument the last good ones and the first wrong ones, at both ends; then all of them are wrong. */
    private void bounds(String call, long bad, int[]... ranges) {
        int[] values = new int[ranges.length];
        for (int i = 0; i < values.length; i++) {
            values[i] = (ranges[i][0] + ranges[i][1]) / 2;
        }
        for (int i = 0; i < ranges.length; i++) {
            int least = ranges[i][0];
            int most = ranges[i][1];
            if (least == LEAST && most == MOST) {
                continue;
            }
            good(with(call, values, i, least), bad);
            good(with(call, values, i, most), bad);
            int[] wrong = least == LEAST ? new int[] {most + 1, MOST} : new int[] {least - 1, most + 1, LEAST, MOST};
            for (int w : wrong) {
                refused(with(call, values, i, w), bad);
            }
        }
        int[] all = new int[ranges.length];
        for (int i = 0; i < all.length; i++) {
            all[i] = ranges[i][1] == MOST ? MOST : ranges[i][1] + 1;
        }
        refused(told(call, all), bad);
    }

    private static String with(String call, int[] values, int i, int v) {
        int[] changed = values.clone();
        changed[i] = v;
        return told(call, changed);
    }

    private static String told(String call, int[] values) {
        StringBuilder words = new StringBuilder(call);
        for (int v : values) {
            words.append(' ').append(v);
        }
        return words.toString();
    }

    private static int[] to(int most) {
        return new int[] {0, most};
    }

    private void everyArgument() {
        check.says("BAD -2 (a number not as told, no such thing) .. They change nothing");
        int[] any = {LEAST, MOST};
        int[] upTo60 = {LEAST, 60};
        bounds("type", -2, to(3), to(255));
        bounds("undo", -2, to(3));
        bounds("wipe", -2, to(3));
        bounds("fault", -2, to(3));
        bounds("level", -2, to(2), to(29));
        int[] least = {0, 0, 0, 1, 0, 0, 0};
        int[] most = {9, 29, 99, 9, 99, 99, 9};
        bounds("set", -2, to(6), new int[] {1, 9});
        for (int what = 0; what < 7; what++) {
            bounds("set " + what, -2, new int[] {least[what], most[what]});
        }
        bounds("odds", -2, to(2), to(99));
        bounds("dike 0", -2, to(11), to(29));
        bounds("read", -2, to(3));
        bounds("possession", -2, to(2));
        bounds("water", -2, to(2), to(29), to(1));
        bounds("deed", -100002, to(2), to(2));
        bounds("contract", -2, to(7), to(29), to(99), to(99));
        bounds("tears", -2, to(7));
        bounds("never", -2, to(1));
        bounds("gain", LEAST_LONG + 2, to(1));
        bounds("fact", -2, to(29), to(11), to(1));
        bounds("sheet", -2, to(3), to(2), upTo60);
        bounds("lose", -2, to(3));
        bounds("lay", -2, to(3), to(2), any, any);
        bounds("copy", -2, to(3), any, to(3), any, any);
        bounds("write", -2, to(2), to(3));
        bounds("count", -2, to(8));
        getIsTheLeastInt();
        dikesToBelowFrom();
        if (yards == 0) {
            noYards();
        } else {
            ofYards(yards - 1);
        }
    }

    private void ofYards(int last) {
        bounds("height", -2, to(last));
        bounds("wet", -2, to(2), to(29), to(last));
        bounds("cost", -2, to(2), to(29), to(last), to(last), to(2));
        bounds("closed", -2, to(2), to(last));
        bounds("waits", LEAST_LONG + 2, to(2), to(29), to(last), to(last), to(1));
        bounds("goes", -2, to(2), to(29), to(last), to(last));
        bounds("keep", -2, to(2), to(29), to(last), to(last), new int[] {1, 12}, to(2));
    }

    private void noYards() {
        String[] calls = {"height 0", "wet 0 0 0", "cost 0 0 0 0 0", "closed 0 0", "goes 0 0 0 0", "keep 0 0 0 0 1 0"};
        for (String call : calls) {
            refused(call, -2);
        }
        refused("waits 0 0 0 0 0", LEAST_LONG + 2);
    }

    private void getIsTheLeastInt() {
        String[] calls = {"get -1 0 0", "get 4 0 0", "get 0 -1 0", "get 0 3 0", "get 3 3 99", "get -2147483648 0 0",
            "get 2147483647 0 0", "get 0 -2147483648 0", "get 0 2147483647 0"};
        for (String call : calls) {
            refused(call, LEAST);
        }
    }

    private void dikesToBelowFrom() {
        String[] calls = {"dike 1 0 0", "dike 11 10 29", "dike 11 0 0", "dike -1 0 0", "dike 12 12 0", "dike -1 -1 0",
            "dike -2147483648 0 0", "dike 2147483647 2147483647 0"};
        for (String call : calls) {
            refused(call, -2);
        }
    }

    private void ofNew() {
        check.says("NOT: it is empty; NOT: none; NULL: the SHEET is LOST");
        for (int n = 0; n < 4; n++) {
            refused("undo " + n, -3);
            refused("read " + n, -11);
            refused("lose " + n, -11);
            refused("write 0 " + n, -11);
            refused("lay " + n + " 0 -1 0", -11);
            refused("get " + n + " 2 60", LEAST, 1);
            refused("copy " + n + " -1 " + (3 - n) + " 61 -1", -11);
            refused("copy " + n + " 0 " + n + " 0 0", -11);
            refused("sheet " + n + " 0 -1", -15);
        }
        refused("breaks", -3);
    }

    private void ofHalf() {
        check.says("NULL, NOT -3 (as told), FULL -4, other FINDINGS");
        String[] lost = {"read 3", "lose 3", "write 2 3", "lay 3 0 0 0", "lay 3 2 99 0", "copy 3 0 0 0 1", "copy 0 0 3 0 1",
            "copy 0 99 3 -1 -1", "copy 3 -1 1 99 99", "copy 3 0 3 0 0"};
        for (String call : lost) {
            refused(call, -11);
        }
        String[] noItem = {"lay 0 0 -1 1", "lay 0 0 3 1", "lay 1 1 4 1", "lay 2 2 2 1", "lay 2 2 -2147483648 1",
            "lay 0 0 2147483647 1", "copy 0 0 0 0 4", "copy 0 1 0 0 3", "copy 0 0 0 1 3", "copy 1 -1 1 0 1",
            "copy 1 0 1 -1 1", "copy 1 0 1 0 -1", "copy 1 5 1 0 0", "copy 1 0 1 5 0", "copy 1 1 1 1 2147483647",
            "copy 1 2147483647 1 0 1", "copy 1 0 1 2147483647 1", "copy 2 0 2 0 -2147483648"};
        for (String call : noItem) {
            refused(call, -12);
        }
        String[] otherForm = {"lay 0 1 0 1", "lay 0 2 99 1", "lay 1 0 0 1", "lay 1 2 -1 1", "lay 2 0 0 1", "lay 2 1 2 1"};
        for (String call : otherForm) {
            refused(call, -13);
        }
        String[] unlike = {"copy 0 0 1 0 1", "copy 1 0 0 0 1", "copy 0 0 2 0 1", "copy 2 0 0 0 1", "copy 1 0 2 0 0",
            "copy 2 -1 1 99 -1"};
        for (String call : unlike) {
            refused(call, -14);
        }
        String[] below = {"sheet 0 0 -1", "sheet 1 2 -1", "sheet 3 0 -1", "sheet 2 1 -2147483648"};
        for (String call : below) {
            refused(call, -15);
        }
        getRefused();
    }

    private void getRefused() {
        check.says("BAD: the least int; so are NULL, CAST, INDEX (count() 8 tells)");
        refused("get 3 0 0", LEAST, 1);
        refused("get 3 2 -1", LEAST, 1);
        refused("get 0 0 -1", LEAST, 2);
        refused("get 0 0 3", LEAST, 2);
        refused("get 2 2 2147483647", LEAST, 2);
        refused("get 0 1 0", LEAST, 3);
        refused("get 1 2 99", LEAST, 3);
        refused("get 2 0 -1", LEAST, 3);
    }

    private void ofFull() {
        check.says("FULL -4");
        for (int text = 0; text < 4; text++) {
            refused("type " + text + " 48", -4);
            refused("type " + text + " 0", -4);
            refused("type " + text + " 255", -4);
        }
        String[] full = {"dike 0 0 0", "dike 11 11 29", "fact 0 0 0", "fact 29 11 1"};
        for (String call : full) {
            refused(call, -4);
        }
        refused("lay 0 0 60 1", -12);
        refused("copy 2 0 3 0 61", -12);
        refused("copy 2 30 3 31 30", -12);
        // a sheet whose items are no dikes for which there is room: none comes, and that is no refusal
        check.due("read", new Calls().does(state).tells("read 0"), 0);
    }

    private void ofNoOdds() {
        check.says("NOT: all ODDS of these together are 0");
        String[] ways = {"0 0 0 4", "1 29 4 0", "2 5 2 2"};
        for (String way : ways) {
            refused("waits " + way + " 0", LEAST_LONG + 3);
            refused("waits " + way + " 1", LEAST_LONG + 3);
            refused("goes " + way, -3);
            refused("waits " + way + " 2", LEAST_LONG + 2);
            refused("waits " + way + " -1", LEAST_LONG + 2);
        }
    }
}
