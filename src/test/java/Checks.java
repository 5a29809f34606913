/** What the tests share: answers compared with those that are due, and short ways to fill shelves. */
final class Checks {
    private final String test;
    private int made;
    private int wrong;

    Checks(String test) {
        this.test = test;
    }

    void due(String call, long got, long want) {
        made++;
        if (got != want) {
            wrong++;
            System.out.println(test + ": " + call + " answered " + got + ", due is " + want);
        }
    }

    void holds(String what, boolean is) {
        made++;
        if (!is) {
            wrong++;
            System.out.println(test + ": " + what + " doesn't hold");
        }
    }

    /** Tells how it went, and ends the machine with 1 if an answer was wrong. */
    void end() {
        System.out.println(test + ": " + made + " checks, " + wrong + " wrong");
        if (wrong != 0 || made == 0) {
            System.exit(1);
        }
    }

    /** A call that is to be refused: its answer, that it is counted once, as just that, and that nothing else changed. */
    void refused(TwoHousesBehind x, String call, java.util.function.LongSupplier made, long want, int sort) {
        String ahead = stateOf(x);
        int[] counts = refusalsOf(x);
        due(call, made.getAsLong(), want);
        int[] after = refusalsOf(x);
        for (int i = 1; i <= 7; i++) {
            due(call + ", then status(" + (10 + i) + ")", after[i], counts[i] + (-i == sort ? 1 : 0));
        }
        holds(call + " leaves all as it was: " + ahead + " / " + stateOf(x), ahead.equals(stateOf(x)));
    }

    void refused(TwoHousesBehind x, String call, java.util.function.LongSupplier made, int want) {
        refused(x, call, made, want, want < -10 ? want + 10 : want);
    }

    private static int[] refusalsOf(TwoHousesBehind x) {
        int[] counts = new int[8];
        for (int i = 1; i <= 7; i++) {
            counts[i] = x.status(10 + i);
        }
        return counts;
    }

    private static String stateOf(TwoHousesBehind x) {
        StringBuilder state = new StringBuilder();
        for (int what = 0; what <= 7; what++) {
            state.append(x.status(what)).append(' ');
        }
        state.append("bird ").append(x.where()).append(' ').append(x.next()).append(" shelves");
        for (int s = 0; s < 8; s++) {
            state.append(' ').append(x.holds(s)).append(' ').append(x.element(s, 0));
        }
        for (int house = 0; house < x.status(0); house++) {
            state.append(" house ").append(x.houseOf(house, 1)).append(' ').append(x.houseOf(house, 3));
        }
        return state.toString();
    }

    static void text(TwoHousesBehind x, int s, String text) {
        x.row(s, 0, text.length());
        for (int i = 0; i < text.length(); i++) {
            x.set(s, i, text.charAt(i));
        }
    }

    static void row(TwoHousesBehind x, int s, int... elements) {
        x.row(s, 2, elements.length);
        for (int i = 0; i < elements.length; i++) {
            x.set(s, i, elements[i]);
        }
    }

    /** A new object with the street that a text tells. */
    static TwoHousesBehind street(String text) {
        TwoHousesBehind x = new TwoHousesBehind();
        text(x, 7, text);
        if (x.street(7) < 1) {
            throw new IllegalStateException("the test's own text has a fault at " + x.fault() + ": " + text);
        }
        x.show(7, TwoHousesBehind.NONE);
        return x;
    }
}
