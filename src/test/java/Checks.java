/** What the tests share: answers compared with those that are due, and short ways to fill shelves. */
final class Checks {
    private final String test;
    private int made;
    private int wrong;

    Checks(String test) {
        this.test = test;
    }

    void due(String call, long got, long want) {
        made++;
        if (got != want) {
            wrong++;
            System.out.println(test + ": " + call + " answered " + got + ", due is " + want);
        }
    }

    void holds(String what, boolean is) {
        made++;
        if (!is) {
            wrong++;
            System.out.println(test + ": " + what + " doesn't hold");
        }
    }

    /** Tells how it went, and ends the machine with 1 if an answer was wrong. */
    void end() {
        System.out.println(test + ": " + made + " checks, " + wrong + " wrong");
        if (wrong != 0 || made == 0) {
            System.exit(1);
        }
    }

    /**
     * A call that is to be refused: its answer, and that it is counted once. That nothing else changes is left to the
     * tests of edges, that take an object of its own for each call: here it would take too many of the 512.
     */
    void refused(TwoHousesBehind x, String call, java.util.function.LongSupplier made, long want, int sort) {
        String ahead = stateOf(x);
        int count = x.status(10 - sort);
        due(call, made.getAsLong(), want);
        due(call + ", then status(" + (10 - sort) + ")", x.status(10 - sort), count + 1);
        holds(call + " leaves all as it was: " + ahead + " / " + stateOf(x), ahead.equals(stateOf(x)));
    }

    void refused(TwoHousesBehind x, String call, java.util.function.LongSupplier made, int want) {
        refused(x, call, made, want, want < -10 ? want + 10 : want);
    }

    private static String stateOf(TwoHousesBehind x) {
        return x.status(0) + " houses, " + x.status(1) + " ways, the bird in " + x.where() + " with " + x.next();
    }

    static void text(TwoHousesBehind x, int s, String text) {
        x.row(s, 0, text.length());
        for (int i = 0; i < text.length(); i++) {
            x.set(s, i, text.charAt(i));
        }
    }

    static void row(TwoHousesBehind x, int s, int... elements) {
        x.row(s, 2, elements.length);
        for (int i = 0; i < elements.length; i++) {
            x.set(s, i, elements[i]);
        }
    }

    /** A new object with the street that a text tells. */
    static TwoHousesBehind street(String text) {
        TwoHousesBehind x = new TwoHousesBehind();
        text(x, 7, text);
        if (x.street(7) < 1) {
            throw new IllegalStateException("the test's own text has a fault at " + x.fault() + ": " + text);
        }
        x.show(7, TwoHousesBehind.NONE);
        return x;
    }
}
