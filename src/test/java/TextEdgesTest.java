/** Promises 1 to 9, and what is said of texts, days, odds and the deed's numbers: each sentence with a boundary. */
public final class TextEdgesTest {
    private static final int NONE = RoadRiver.NONE;
    private static final int BAD = RoadRiver.BAD;
    private static final int NOT = RoadRiver.NOT;
    private static final int FULL = RoadRiver.FULL;
    private static final int LEAST = Integer.MIN_VALUE;
    private static final int MOST = Integer.MAX_VALUE;

    private static final Check check = new Check();

    public static void main(String[] args) {
        springsAreUpToThirtyBytes();
        theRoadIsUpToTwelveBytes();
        figuresAreLevelsAndHeights();
        fiveHundredAndTwelveCalls();
        everyByteIsAFigureOrAFault();
        theFirstFaultIsTold();
        aSpringWithAFaultIsAsIfEmpty();
        theRoadWithAFaultIsAsIfEmpty();
        daysAndTheLastOneTold();
        oddsAreZeroToNinetyNine();
        aNewObject();
        theFirstCallOfANewObject();
        typeRefuses();
        undoToTheEmptyText();
        wipeEmptyAndFull();
        faultOfTexts();
        heightOfYardsThatAreThere();
        levelOfSpringsAndDays();
        setLimits();
        setsAreApart();
        check.end();
    }

    private static void springsAreUpToThirtyBytes() {
        check.says("SPRINGS (texts 0 to 2) are texts of up to 30 bytes");
        for (int text = 0; text < 3; text++) {
            RoadRiver x = new RoadRiver();
            for (int n = 1; n <= 30; n++) {
                check.due("byte " + n, x.type(text, n == 30 ? '7' : '4'), n);
            }
            check.due("byte 31", x.type(text, '9'), FULL);
            check.due("a byte that is no figure", x.type(text, 'x'), FULL);
            check.due("how many", x.count(text + 1), 30);
            check.due("last level", x.level(text, 29), 7);
            check.due("the one before", x.level(text, 28), 4);
            check.due("no fault", x.fault(text), NONE);
            check.due("undo", x.undo(text), 29);
            check.due("room again", x.type(text, '8'), 30);
            check.due("full again", x.type(text, '8'), FULL);
            check.due("last level", x.level(text, 29), 8);
            check.due("room in another text", x.type((text + 1) % 3, '1'), 1);
            check.due("room in the road", x.type(3, '1'), 1);
        }
    }

    private static void theRoadIsUpToTwelveBytes() {
        check.says("THE ROAD (text 3) is one of up to 12");
        RoadRiver x = new RoadRiver();
        for (int n = 1; n <= 12; n++) {
            check.due("byte " + n, x.type(3, n == 12 ? '6' : '2'), n);
            check.due("yards", x.count(0), n);
        }
        check.due("byte 13", x.type(3, '0'), FULL);
        check.due("how many", x.count(0), 12);
        check.due("last height", x.height(11), 6);
        check.due("the one before", x.height(10), 2);
        check.due("none behind it", x.height(12), BAD);
        check.due("undo", x.undo(3), 11);
        check.due("room again", x.type(3, '3'), 12);
        check.due("full again", x.type(3, '3'), FULL);
        check.due("room in a spring", x.type(2, '1'), 1);
    }

    private static void figuresAreLevelsAndHeights() {
        RoadRiver x = Check.valley("0123456789", "0123456789", "9876543210", "5555555555");
        for (int n = 0; n < 10; n++) {
            check.says("figures, the LEVEL (0 to 9) of DAYS 0 on");
            check.due("upward", x.level(0, n), n);
            check.due("downward", x.level(1, n), 9 - n);
            check.due("always", x.level(2, n), 5);
            check.says("figures, the HEIGHTS (0 to 9) of YARDS 0 on");
            check.due("height", x.height(n), n);
        }
        check.due("no such yard", x.height(10), BAD);
    }

    private static void fiveHundredAndTwelveCalls() {
        check.says("An object is used for at most 512 calls after it has been made");
        RoadRiver x = new RoadRiver();
        for (int call = 1; call <= 510; call += 2) {
            check.due("type", x.type(call % 4, '5'), 1);
            check.due("undo", x.undo(call % 4), 0);
        }
        check.due("call 511", x.type(0, '5'), 1);
        check.due("call 512", x.possession(0), 0);
    }

    private static void everyByteIsAFigureOrAFault() {
        check.says("The FAULT of a text is the place of the first byte that is no figure (of none, none)");
        for (int b = 0; b < 256; b++) {
            boolean isFigure = b >= 48 && b <= 57;
            RoadRiver x = new RoadRiver();
            for (int text = 0; text < 4; text++) {
                check.due("empty", x.fault(text), NONE);
                check.due("type " + b, x.type(text, b), 1);
                check.due("byte " + b, x.fault(text), isFigure ? NONE : 0);
            }
            check.due("yards by " + b, x.count(0), isFigure ? 1 : 0);
            check.due("days by " + b, x.count(3), isFigure ? 1 : 0);
            check.due("height by " + b, x.height(0), isFigure ? b - 48 : BAD);
            check.due("level by " + b, x.level(1, 0), isFigure ? b - 48 : 0);
        }
    }

    private static void theFirstFaultIsTold() {
        check.says("The FAULT of a text is the place of the first byte that is no figure (of none, none)");
        for (int text = 0; text < 4; text++) {
            int most = text == 3 ? 12 : 30;
            RoadRiver x = new RoadRiver();
            for (int n = 1; n < most; n++) {
                x.type(text, '0');
            }
            check.due("all figures", x.fault(text), NONE);
            check.due("the last place", x.type(text, '/'), most);
            check.due("fault", x.fault(text), most - 1);
            check.due("undone", x.undo(text), most - 1);
            check.due("no fault", x.fault(text), NONE);
            check.due("wiped", x.wipe(text), most - 1);
            Check.type(x, text, "1:2;");
            check.due("the first of two", x.fault(text), 1);
            x.undo(text);
            check.due("it stays", x.fault(text), 1);
            Check.retype(x, text, ":");
            check.due("place 0", x.fault(text), 0);
        }
    }

    private static void aSpringWithAFaultIsAsIfEmpty() {
        check.says("with a FAULT it is as if it was empty");
        RoadRiver x = Check.valley("00", "99999999999999999999999999999", "9", "");
        check.due("ahead", x.closed(0, 0), 29);
        check.due("a fault in the last place", x.type(0, ' '), 30);
        check.due("full by its bytes", x.type(0, '9'), FULL);
        check.due("days told", x.count(1), 0);
        for (int day = 0; day < 30; day++) {
            check.due("level", x.level(0, day), 0);
            check.due("water", x.water(0, day, 0), 0);
        }
        check.due("possession", x.possession(0), NONE);
        check.due("closed", x.closed(0, 0), 0);
        check.due("worth", x.deed(0, 2), 0);
        check.due("alike with the empty one", x.waits(0, 0, 0, 1, 0), 2);
        check.due("watch: two kinds", x.watch(), 0);
        x.fact(5, 1, 1);
        check.due("fit", x.fit(), 0);
        x.set(0, 0);
        check.due("thaw 0", x.possession(0), 0);
        x.set(0, 3);
        check.due("other texts are as they were", x.possession(1), 0);
        check.due("the fault is undone", x.undo(0), 29);
        check.due("days told again", x.count(1), 29);
        check.due("closed again", x.closed(0, 0), 29);
        check.due("fit again", x.fit(), 1);
    }

    private static void theRoadWithAFaultIsAsIfEmpty() {
        check.says("with a FAULT it is as if it was empty");
        RoadRiver x = Check.valley("00000", "99");
        x.sheet(0, 0, 9);
        x.fact(0, 0, 0);
        check.due("ahead", x.fit(), 6);
        x.type(3, 'a');
        check.due("yards", x.count(0), 0);
        check.due("height", x.height(0), BAD);
        check.due("wet", x.wet(0, 0, 0), BAD);
        check.due("water", x.water(0, 0, 0), 0);
        check.due("islands", x.water(0, 0, 1), 0);
        check.due("cost", x.cost(0, 0, 0, 0, 2), BAD);
        check.due("closed", x.closed(0, 0), BAD);
        check.due("gravel", x.deed(0, 0), 0);
        check.due("wet days", x.deed(0, 1), 0);
        check.due("waits", x.waits(0, 0, 0, 0, 0), Long.MIN_VALUE + 2);
        check.due("goes", x.goes(0, 0, 0, 0), BAD);
        check.due("keep", x.keep(0, 0, 0, 0, 1, 0), BAD);
        check.due("fit", x.fit(), 7);
        check.due("write", x.write(0, 0), 0);
        check.due("springs are as they were", x.possession(0), 0);
        check.due("a dike may be", x.dike(0, 11, 0), 1);
        check.due("a fact may be", x.fact(0, 11, 0), 2);
        check.due("bytes are there", x.undo(3), 5);
        check.due("yards again", x.count(0), 5);
        check.due("closed again, with the dike", x.closed(0, 0), 0);
        check.due("write again", x.write(0, 0), 5);
    }

    private static void daysAndTheLastOneTold() {
        check.says("DAYS are 0 to 29, and behind the last one told of a SPRING its LEVEL is 0");
        RoadRiver x = Check.valley("0", "579", "999999999999999999999999999999", "");
        check.due("the last one told", x.level(0, 2), 9);
        for (int day = 3; day < 30; day++) {
            check.due("behind it", x.level(0, day), 0);
        }
        check.due("behind it, lent but not wet", x.wet(0, 3, 0), 0);
        x.undo(0);
        check.due("undone", x.level(0, 2), 0);
        check.due("day 29", x.level(1, 29), 9);
        check.due("day 30", x.level(1, 30), BAD);
        check.due("day 0", x.level(1, 0), 9);
        check.due("day -1", x.level(1, -1), BAD);
        check.due("wet on day 29", x.wet(1, 29, 0), 1);
        check.due("wet on day 30", x.wet(1, 30, 0), BAD);
        check.due("water on day 29", x.water(1, 29, 0), 1);
        check.due("water on day 30", x.water(1, 30, 0), BAD);
        check.due("nothing told", x.level(2, 0), 0);
    }

    private static void oddsAreZeroToNinetyNine() {
        check.says("ODDS of SPRINGS (0 to 99; 1 at first); ODDS of a SPRING: what they were. BAD.");
        for (int spring = 0; spring < 3; spring++) {
            RoadRiver x = new RoadRiver();
            check.due("below", x.odds(spring, -1), BAD);
            check.due("above", x.odds(spring, 100), BAD);
            check.due("far below", x.odds(spring, LEAST), BAD);
            check.due("far above", x.odds(spring, MOST), BAD);
            check.due("1 at first", x.odds(spring, 0), 1);
            check.due("together", x.count(7), 2);
            check.due("0", x.odds(spring, 99), 0);
            check.due("together", x.count(7), 101);
            check.due("99", x.odds(spring, 99), 99);
            check.due("another one's", x.odds((spring + 1) % 3, 5), 1);
        }
        RoadRiver x = new RoadRiver();
        int[] wrong = {-1, 3, 4, LEAST, MOST};
        for (int spring : wrong) {
            check.due("no such spring", x.odds(spring, 1), BAD);
        }
        check.due("as they were", x.count(7), 3);
    }

    private static void aNewObject() {
        check.says("Empty texts, no DIKES; all SHEETS are LOST.");
        RoadRiver x = new RoadRiver();
        for (int what = 0; what <= 8; what++) {
            check.due("count " + what, x.count(what), what == 7 ? 3 : 0);
        }
        for (int text = 0; text < 4; text++) {
            check.due("no fault", x.fault(text), NONE);
            check.due("nothing to undo", x.undo(text), NOT);
        }
        check.due("no dike", x.breaks(), NOT);
        for (int contract = 0; contract < 8; contract++) {
            check.due("no contract", x.tears(contract), 0);
        }
        check.due("no fact", x.forget(), 0);
        check.due("no finding yet", x.count(8), 0);
        for (int s = 0; s < 4; s++) {
            check.due("lost", x.lose(s), -11);
        }
        RoadRiver y = new RoadRiver();
        Check.type(x, 0, "9");
        x.dike(0, 0, 0);
        x.sheet(0, 0, 1);
        check.due("another object has its own texts", y.count(1), 0);
        check.due("its own dikes", y.count(4), 0);
        check.due("its own findings", y.count(8), 0);
        check.due("its own sheets", y.lose(0), -11);
    }

    private static void theFirstCallOfANewObject() {
        check.says("Empty texts, no DIKES; all SHEETS are LOST.");
        for (int spring = 0; spring < 3; spring++) {
            check.due("possession", new RoadRiver().possession(spring), NONE);
            check.due("level", new RoadRiver().level(spring, 29), 0);
            check.due("water", new RoadRiver().water(spring, 0, 0), 0);
            check.due("worth", new RoadRiver().deed(spring, 2), 0);
        }
        check.due("height", new RoadRiver().height(0), BAD);
        check.due("cost", new RoadRiver().cost(0, 0, 0, 0, 0), BAD);
        check.due("sets", new RoadRiver().never(0), 1);
        check.due("mean, below", new RoadRiver().gain(1), 1);
        check.due("watch", new RoadRiver().watch(), 0);
        check.due("fit", new RoadRiver().fit(), 7);
        check.due("forget", new RoadRiver().forget(), 0);
        check.due("breaks", new RoadRiver().breaks(), NOT);
        check.due("odds", new RoadRiver().odds(2, 0), 1);
        check.due("read", new RoadRiver().read(0), -11);
        check.due("write", new RoadRiver().write(0, 0), -11);
        RoadRiver x = new RoadRiver();
        x.contract(0, 29, 9, 1);
        check.due("no possession: a contract may lose", x.never(0), 1);
    }

    private static void typeRefuses() {
        check.says("A byte (0 to 255) comes behind a text (0 to 3): how many. BAD; FULL.");
        RoadRiver x = new RoadRiver();
        int[] wrong = {-1, 256, LEAST, MOST, 304};
        for (int text = 0; text < 4; text++) {
            for (int b : wrong) {
                check.due("byte " + b, x.type(text, b), BAD);
            }
            check.due("byte 0", x.type(text, 0), 1);
            check.due("byte 255", x.type(text, 255), 2);
        }
        int[] noText = {-1, 4, LEAST, MOST};
        for (int text : noText) {
            check.due("text " + text, x.type(text, '0'), BAD);
            check.due("text and byte", x.type(text, 256), BAD);
        }
        for (int n = 3; n <= 12; n++) {
            x.type(3, '0');
        }
        check.due("full", x.type(3, 0), FULL);
        check.due("full", x.type(3, 255), FULL);
        check.due("BAD ahead of FULL", x.type(3, 256), BAD);
        check.due("BAD ahead of FULL", x.type(3, -1), BAD);
        check.due("as many as there were", x.wipe(3), 12);
    }

    private static void undoToTheEmptyText() {
        check.says("The last byte of a text is undone: how many are left. BAD; NOT: it is empty.");
        for (int text = 0; text < 4; text++) {
            int most = text == 3 ? 12 : 30;
            RoadRiver x = new RoadRiver();
            check.due("empty", x.undo(text), NOT);
            for (int n = 0; n < most; n++) {
                x.type(text, '0' + n % 10);
            }
            for (int left = most - 1; left >= 0; left--) {
                check.due("left", x.undo(text), left);
                int last = left == 0 ? text == 3 ? BAD : 0 : (left - 1) % 10;
                check.due("the last", text == 3 ? x.height(left - 1) : x.level(text, Math.max(left - 1, 0)), last);
            }
            check.due("empty", x.undo(text), NOT);
            check.due("empty", x.undo(text), NOT);
            check.due("it may be typed again", x.type(text, '3'), 1);
            check.due("with its byte", text == 3 ? x.height(0) : x.level(text, 0), 3);
            x.undo(text);
            x.type(text, 'x');
            check.due("a fault is undone too", x.undo(text), 0);
        }
        RoadRiver x = new RoadRiver();
        int[] noText = {-1, 4, LEAST, MOST};
        for (int text : noText) {
            check.due("text " + text, x.undo(text), BAD);
        }
    }

    private static void wipeEmptyAndFull() {
        check.says("A text is empty: how many bytes it had. BAD.");
        for (int text = 0; text < 4; text++) {
            int most = text == 3 ? 12 : 30;
            RoadRiver x = new RoadRiver();
            check.due("empty", x.wipe(text), 0);
            for (int n = 0; n < most; n++) {
                x.type(text, n == 0 ? 'x' : '9');
            }
            check.due("full, with a fault", x.wipe(text), most);
            check.due("no fault", x.fault(text), NONE);
            check.due("nothing to undo", x.undo(text), NOT);
            check.due("wiped again", x.wipe(text), 0);
            check.due("typed again", x.type(text, '2'), 1);
            check.due("nothing of before comes back", x.count(text == 3 ? 0 : text + 1), 1);
            check.due("its figure", text == 3 ? x.height(0) : x.level(text, 0), 2);
            check.due("behind it", text == 3 ? x.height(1) : x.level(text, 1), text == 3 ? BAD : 0);
        }
        RoadRiver x = Check.valley("1", "1", "1", "1");
        int[] noText = {-1, 4, LEAST, MOST};
        for (int text : noText) {
            check.due("text " + text, x.wipe(text), BAD);
        }
        check.due("text 3", x.wipe(3), 1);
        for (int spring = 0; spring < 3; spring++) {
            check.due("others are as they were", x.count(spring + 1), 1);
        }
    }

    private static void faultOfTexts() {
        check.says("The FAULT of a text; NONE. BAD.");
        RoadRiver x = Check.valley("x", "1x", "11x", "111");
        int[] due = {1, 2, NONE, 0};
        for (int text = 0; text < 4; text++) {
            check.due("text " + text, x.fault(text), due[text]);
        }
        int[] noText = {-1, 4, LEAST, MOST};
        for (int text : noText) {
            check.due("text " + text, x.fault(text), BAD);
        }
    }

    private static void heightOfYardsThatAreThere() {
        check.says("The HEIGHT of a YARD. BAD.");
        RoadRiver x = new RoadRiver();
        for (int yards = 0; yards <= 12; yards++) {
            check.due("no such yard", x.height(yards), BAD);
            check.due("no such yard", x.height(-1), BAD);
            check.due("the last one", x.height(yards - 1), yards == 0 ? BAD : (yards - 1) * 7 % 10);
            x.type(3, '0' + yards * 7 % 10);
        }
        int[] noYard = {12, 30, 48, LEAST, MOST};
        for (int yard : noYard) {
            check.due("yard " + yard, x.height(yard), BAD);
        }
    }

    private static void levelOfSpringsAndDays() {
        check.says("The LEVEL of a SPRING on a DAY. BAD.");
        RoadRiver x = Check.valley("9", "1", "2", "3");
        for (int spring = 0; spring < 3; spring++) {
            check.due("level", x.level(spring, 0), spring + 1);
            check.due("the last day", x.level(spring, 29), 0);
        }
        int[] noSpring = {-1, 3, 4, LEAST, MOST};
        for (int spring : noSpring) {
            check.due("spring " + spring, x.level(spring, 0), BAD);
        }
        int[] noDay = {-1, 30, LEAST, MOST};
        for (int day : noDay) {
            check.due("day " + day, x.level(0, day), BAD);
        }
    }

    private static void setLimits() {
        check.says("THAW (0 to 9; 3 at first), GEORGE (0 to 29; 29 at first), FERRY (0 to 99; 5 at first), RIDGE (1 to "
                + "9; 3 at first), PRICE (0 to 99; 1 at first), LOSS (0 to 99; 4 at first), NAG (0 to 9; 1 at first)");
        int[] least = {0, 0, 0, 1, 0, 0, 0};
        int[] most = {9, 29, 99, 9, 99, 99, 9};
        int[] first = {3, 29, 5, 3, 1, 4, 1};
        for (int what = 0; what < 7; what++) {
            RoadRiver x = new RoadRiver();
            int[] wrong = {least[what] - 1, most[what] + 1, LEAST, MOST};
            for (int v : wrong) {
                check.due("set " + what + " " + v, x.set(what, v), BAD);
            }
            check.due("at first", x.set(what, least[what]), first[what]);
            for (int v : wrong) {
                check.due("set " + what + " " + v, x.set(what, v), BAD);
            }
            check.due("the least", x.set(what, most[what]), least[what]);
            check.due("the most", x.set(what, first[what]), most[what]);
        }
        RoadRiver x = new RoadRiver();
        int[] noSuch = {-1, 7, LEAST, MOST};
        for (int what : noSuch) {
            check.due("what " + what, x.set(what, 1), BAD);
        }
    }

    private static void setsAreApart() {
        check.says("THAW (what = 0), GEORGE (1), FERRY (2), RIDGE (3), PRICE (4), LOSS (5), NAG (6): what it was.");
        RoadRiver x = new RoadRiver();
        for (int what = 0; what < 7; what++) {
            x.set(what, what + 2);
        }
        for (int what = 0; what < 7; what++) {
            check.due("what " + what, x.set(what, 1), what + 2);
        }
        for (int what = 0; what < 7; what++) {
            check.due("what " + what, x.set(what, 1), 1);
        }
    }
}
