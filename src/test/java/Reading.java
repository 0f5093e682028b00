import java.util.ArrayList;
import java.util.List;

/**
 * All that can be told of an object, in parts: an object answers 512 calls, and a part may undo what it
 * reads, so each part needs an object of its own.
 */
final class Reading {
    static final int PARTS = 7;
    private static final int LEAST = Integer.MIN_VALUE;

    private final Calls calls;
    private final List<Long> told = new ArrayList<>();

    private Reading(Calls calls) {
        this.calls = calls;
    }

    static List<Long> of(Calls calls, int part) {
        Reading r = new Reading(calls);
        switch (part) {
            case 0 -> r.numbers();
            case 1 -> r.texts(0, 1);
            case 2 -> r.texts(2, 3);
            case 3 -> r.dikes();
            case 4 -> r.contracts();
            case 5 -> r.facts();
            default -> r.sheets();
        }
        return r.told;
    }

    private void tell(String name, int... values) {
        told.add(calls.ask(name, values));
    }

    /** The latest finding comes last, as it alone may change. */
    private void numbers() {
        long finding = calls.ask("count", 8);
        for (int what = 0; what < 8; what++) {
            tell("count", what);
        }
        tell("digest");
        for (int what = 0; what < 7; what++) {
            tell("set", what, 1);
        }
        for (int spring = 0; spring < 3; spring++) {
            tell("odds", spring, 1);
        }
        told.add(finding);
    }

    private void texts(int first, int last) {
        for (int text = first; text <= last; text++) {
            long left = 30;
            for (int n = 0; n <= 30 && left >= 0; n++) {
                tell("fault", text);
                left = calls.ask("undo", text);
                told.add(left);
                if (left > 0 && text == 3) {
                    tell("height", (int) left - 1);
                } else if (left > 0) {
                    tell("level", text, (int) left - 1);
                }
            }
        }
    }

    /** On a low road in a flood each dike is seen. */
    private void dikes() {
        calls.does("wipe 0; wipe 3; set 0 0; set 1 29; text 3 000000000000; text 0 " + "9".repeat(30));
        long left = 8;
        for (int n = 0; n <= 8 && left >= 0; n++) {
            for (int day = 0; day < 30; day++) {
                tell("water", 0, day, 0);
            }
            left = calls.ask("breaks");
            told.add(left);
        }
    }

    /** In a spring that rises by 1 a day, thaw tells the day of possession. */
    private void contracts() {
        calls.does("wipe 0; set 1 29; odds 0 1; odds 1 0; odds 2 0; text 0 0123456789");
        for (int thaw = 0; thaw < 10; thaw++) {
            calls.ask("set", 0, thaw);
            sets();
        }
        calls.does("set 0 9; wipe 0; text 0 " + "0".repeat(29) + "9");
        sets();
        for (int contract = 0; contract < 8; contract++) {
            tell("tears", contract);
            sets();
        }
    }

    private void sets() {
        tell("never", 0);
        tell("never", 1);
        tell("gain", 0);
        tell("gain", 1);
    }

    /** The facts of the states are so in the first spring of this valley: wet from day 5 on, up to yard 5. */
    private void facts() {
        while (calls.ask("breaks") >= 0) {
            told.add(0L);
        }
        tell("fit");
        calls.does("wipe 0; wipe 1; wipe 2; wipe 3; set 0 3; set 1 29; text 3 000000999999; text 0 00000"
                + "9".repeat(25));
        tell("fit");
        tell("forget");
        tell("fit");
    }

    private void sheets() {
        for (int s = 0; s < 4; s++) {
            int form = 2;
            for (int f = 0; f < 3; f++) {
                boolean isThere = calls.ask("get", s, f, 0) != LEAST;
                told.add(isThere ? 0 : calls.ask("count", 8));
                form = isThere ? f : form;
            }
            for (int i = 0; i < 60; i++) {
                tell("get", s, form, i);
            }
            tell("lose", s);
        }
    }
}
