/** Counts and prints the calls whose answer is not the one that is due. */
final class Check {
    private static final int MOST_PRINTED = 50;

    private String sentence = "";
    private int wrong = 0;
    private int asked = 0;

    /** The words of the document that the next answers are held against. */
    void says(String words) {
        sentence = words;
    }

    void due(String call, long got, long want) {
        asked++;
        if (got != want) {
            wrong++;
            if (wrong <= MOST_PRINTED) {
                System.out.println(call + " answered " + got + ", due is " + want
                        + (sentence.isEmpty() ? "" : ", as the document says: " + sentence));
            }
        }
    }

    void isTrue(String what, boolean holds) {
        due(what, holds ? 1 : 0, 1);
    }

    boolean hasWrong() {
        return wrong > 0;
    }

    void end() {
        System.out.println(wrong == 0 ? asked + " answers are as due"
                : wrong + " of " + asked + " answers are not as due");
        if (wrong != 0) {
            System.exit(1);
        }
    }

    static RoadRiver valley(String road, String... springs) {
        RoadRiver x = new RoadRiver();
        type(x, 3, road);
        for (int spring = 0; spring < springs.length; spring++) {
            type(x, spring, springs[spring]);
        }
        return x;
    }

    static void type(RoadRiver x, int text, String bytes) {
        for (int i = 0; i < bytes.length(); i++) {
            x.type(text, bytes.charAt(i));
        }
    }

    /** Takes the place of a text that was there. */
    static void retype(RoadRiver x, int text, String bytes) {
        x.wipe(text);
        type(x, text, bytes);
    }

    /** A new sheet with these items. */
    static void lay(RoadRiver x, int s, int form, int... items) {
        x.sheet(s, form, items.length);
        for (int i = 0; i < items.length; i++) {
            x.lay(s, form, i, items[i]);
        }
    }
}
