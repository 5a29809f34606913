/** Edges of promises 9 to 18: houses, ways, lag, streets read from texts. */
public final class StreetEdgesTest extends Edges {
    public static void main(String[] arguments) {
        run(StreetEdgesTest.class, 9, 18);
    }

    // ---- promise 9: house

    static void promise9_kinds0To6() {
        refused(Edges::rich, x -> x.house(-1, 0, 0), -1);
        due(answered(Edges::rich, x -> x.house(0, 0, 0), 7).houseOf(7, 0), 0);
        due(answered(Edges::rich, x -> x.house(6, 0, 0), 7).houseOf(7, 0), 6);
        refused(Edges::rich, x -> x.house(7, 0, 0), -1);
        refused(Edges::rich, x -> x.house(LEAST, 0, 0), -1);
        refused(Edges::rich, x -> x.house(MOST, 0, 0), -1);
    }

    static void promise9_minus6SaidBut0To255() {
        refused(Edges::rich, x -> x.house(0, -1, 0), -6);
        due(answered(Edges::rich, x -> x.house(0, 0, 0), 7).houseOf(7, 1), 0);
        due(answered(Edges::rich, x -> x.house(0, 1, 0), 7).houseOf(7, 1), 1);
        due(answered(Edges::rich, x -> x.house(0, 254, 0), 7).houseOf(7, 1), 254);
        due(answered(Edges::rich, x -> x.house(0, 255, 0), 7).houseOf(7, 1), 255);
        refused(Edges::rich, x -> x.house(0, 256, 0), -6);
        refused(Edges::rich, x -> x.house(0, LEAST, 0), -6);
        refused(Edges::rich, x -> x.house(0, MOST, 0), -6);
    }

    static void promise9_minus6ABut0To255() {
        refused(Edges::rich, x -> x.house(0, 0, -1), -6);
        due(answered(Edges::rich, x -> x.house(0, 0, 0), 7).houseOf(7, 2), 0);
        due(answered(Edges::rich, x -> x.house(0, 0, 1), 7).houseOf(7, 2), 1);
        due(answered(Edges::rich, x -> x.house(0, 0, 254), 7).houseOf(7, 2), 254);
        due(answered(Edges::rich, x -> x.house(0, 0, 255), 7).houseOf(7, 2), 255);
        refused(Edges::rich, x -> x.house(0, 0, 256), -6);
        refused(Edges::rich, x -> x.house(0, 0, LEAST), -6);
        refused(Edges::rich, x -> x.house(0, 0, MOST), -6);
    }

    static void promise9_8HousesAtMost() {
        TwoHousesBehind x = bare();
        for (int house = 0; house < 8; house++) {
            due(x.house(0, 0, 0), house);
            due(x.status(0), house + 1);
        }
        due(x.house(0, 0, 0), -7);
        due(x.status(0), 8);
        answered(Edges::rich, y -> y.house(0, 0, 0), 7);
        refused(Edges::full, y -> y.house(0, 0, 0), -7);
    }

    static void promise9_knownAndVisitsNoneAtFirst() {
        TwoHousesBehind x = answered(Edges::rich, y -> y.house(2, 255, 255), 7);
        due(x.houseOf(7, 3), 0);
        due(x.houseOf(7, 4), 0);
        // where a house was that an IMAGE doesn't have
        TwoHousesBehind z = rich();
        z.put(6);
        z.restore();
        due(z.house(0, 1, 0), 6);
        due(z.houseOf(6, 3), 0);
        due(z.houseOf(6, 4), 0);
    }

    static void promise9_refusalsInTheirOrder() {
        refused(Edges::full, x -> x.house(7, 256, 256), -1);
        refused(Edges::full, x -> x.house(-1, 0, 0), -1);
        refused(Edges::full, x -> x.house(6, 256, 0), -6);
        refused(Edges::full, x -> x.house(6, 0, -1), -6);
    }

    // ---- promise 10: way

    static void promise10_minus1NoSuchHouse() {
        refused(Edges::rich, x -> x.way(-1, 0, 1), -1);
        refused(Edges::rich, x -> x.way(0, -1, 1), -1);
        answered(Edges::rich, x -> x.way(0, 6, 1), 9);
        answered(Edges::rich, x -> x.way(6, 0, 1), 9);
        refused(Edges::rich, x -> x.way(7, 0, 1), -1);
        refused(Edges::rich, x -> x.way(0, 7, 1), -1);
        refused(Edges::bare, x -> x.way(0, 0, 1), -1);
        refused(Edges::rich, x -> x.way(LEAST, MOST, 1), -1);
    }

    static void promise10_minus6BothAlike() {
        refused(Edges::rich, x -> x.way(0, 0, 1), -6);
        refused(Edges::rich, x -> x.way(6, 6, 1), -6);
        answered(Edges::rich, x -> x.way(5, 6, 1), 9);
    }

    static void promise10_minutes1To60() {
        refused(Edges::rich, x -> x.way(0, 1, LEAST), -6);
        refused(Edges::rich, x -> x.way(0, 1, -1), -6);
        refused(Edges::rich, x -> x.way(0, 1, 0), -6);
        due(answered(Edges::rich, x -> x.way(0, 1, 1), 9).wayOf(9, 2), 1);
        due(answered(Edges::rich, x -> x.way(0, 1, 2), 9).wayOf(9, 2), 2);
        due(answered(Edges::rich, x -> x.way(0, 1, 59), 9).wayOf(9, 2), 59);
        due(answered(Edges::rich, x -> x.way(0, 1, 60), 9).wayOf(9, 2), 60);
        refused(Edges::rich, x -> x.way(0, 1, 61), -6);
        refused(Edges::rich, x -> x.way(0, 1, MOST), -6);
    }

    static void promise10_12WaysAtMost() {
        TwoHousesBehind x = line(2);
        for (int way = 1; way < 12; way++) {
            due(x.way(0, 1, 9), way);
            due(x.status(1), way + 1);
        }
        due(x.way(0, 1, 9), -7);
        due(x.status(1), 12);
        refused(Edges::full, y -> y.way(0, 1, 9), -7);
    }

    static void promise10_openAtFirst() {
        TwoHousesBehind x = answered(Edges::rich, y -> y.way(4, 3, 7), 9);
        dues(new long[] {x.wayOf(9, 0), x.wayOf(9, 1), x.wayOf(9, 2), x.wayOf(9, 3)}, 4, 3, 7, 0);
        // where a shut way was that an IMAGE doesn't have
        TwoHousesBehind z = rich();
        z.shut(6, true);
        z.restore();
        due(z.way(0, 1, 7), 6);
        due(z.wayOf(6, 3), 0);
    }

    static void promise10_refusalsInTheirOrder() {
        refused(Edges::full, x -> x.way(8, 8, 0), -1);
        refused(Edges::full, x -> x.way(0, 8, 61), -1);
        refused(Edges::full, x -> x.way(-1, -1, 0), -1);
        refused(Edges::full, x -> x.way(7, 7, 1), -6);
        refused(Edges::full, x -> x.way(0, 1, 0), -6);
        refused(Edges::full, x -> x.way(0, 1, 61), -6);
    }

    // ---- promise 11: ways

    /** rich(), with a row of ints: three ways that can be, one of no minutes, one more that can be. */
    private static TwoHousesBehind told() {
        TwoHousesBehind x = rich();
        fill(x, 2, 2, 0, 1, 60, 6, 5, 1, 3, 4, 30, 0, 1, 0, 0, 1, 5);
        return x;
    }

    private static void came(Call call, int came) {
        TwoHousesBehind x = answered(StreetEdgesTest::told, call, came);
        due(x.status(1), 9 + came);
    }

    static void promise11_shelves0To7() {
        refused(StreetEdgesTest::told, x -> x.ways(-1, 0, 0), -1);
        answered(StreetEdgesTest::told, x -> x.ways(0, 0, 0), 0);
        answered(StreetEdgesTest::told, x -> x.ways(7, 0, 0), 0);
        refused(StreetEdgesTest::told, x -> x.ways(8, 0, 0), -1);
    }

    static void promise11_minus2AHouse() {
        refused(StreetEdgesTest::told, x -> x.ways(4, 0, 0), -2);
    }

    static void promise11_minus3Nothing() {
        refused(StreetEdgesTest::told, x -> x.ways(6, 0, 0), -3);
    }

    static void promise11_minus4ASizeBelow0() {
        refused(StreetEdgesTest::told, x -> x.ways(2, 0, -1), -4);
        refused(StreetEdgesTest::told, x -> x.ways(2, 0, -3), -4);
        refused(StreetEdgesTest::told, x -> x.ways(2, 0, LEAST), -4);
        came(x -> x.ways(2, 0, 0), 0);
        came(x -> x.ways(2, 0, 3), 1);
    }

    static void promise11_minus5AnElementThatIsNotThere() {
        refused(StreetEdgesTest::told, x -> x.ways(2, -1, 3), -5);
        refused(StreetEdgesTest::told, x -> x.ways(2, -1, 0), -5);
        came(x -> x.ways(2, 12, 3), 1);
        refused(StreetEdgesTest::told, x -> x.ways(2, 13, 3), -5);
        came(x -> x.ways(2, 0, 15), 3);
        refused(StreetEdgesTest::told, x -> x.ways(2, 0, 18), -5);
        came(x -> x.ways(2, 15, 0), 0);
        refused(StreetEdgesTest::told, x -> x.ways(2, 16, 0), -5);
        refused(StreetEdgesTest::told, x -> x.ways(2, MOST, 3), -5);
        refused(StreetEdgesTest::told, x -> x.ways(2, 3, MOST), -5);
        refused(StreetEdgesTest::told, x -> x.ways(7, 0, 3), -5);
    }

    static void promise11_minus6NoMultipleOfThree() {
        refused(StreetEdgesTest::told, x -> x.ways(2, 0, 1), -6);
        refused(StreetEdgesTest::told, x -> x.ways(2, 0, 2), -6);
        came(x -> x.ways(2, 0, 3), 1);
        refused(StreetEdgesTest::told, x -> x.ways(2, 0, 4), -6);
        refused(StreetEdgesTest::told, x -> x.ways(2, 0, 5), -6);
        came(x -> x.ways(2, 0, 6), 2);
    }

    static void promise11_refusalsInTheirOrder() {
        refused(StreetEdgesTest::told, x -> x.ways(8, -1, -1), -1);
        refused(StreetEdgesTest::told, x -> x.ways(4, -1, -1), -2);
        refused(StreetEdgesTest::told, x -> x.ways(6, -1, -1), -3);
        refused(StreetEdgesTest::told, x -> x.ways(2, -1, -1), -4);
        refused(StreetEdgesTest::told, x -> x.ways(2, 16, -1), -4);
        refused(StreetEdgesTest::told, x -> x.ways(2, -1, 1), -5);
        refused(StreetEdgesTest::told, x -> x.ways(2, 0, 16), -5);
    }

    static void promise11_untilOneThatCannotBeOne() {
        came(x -> x.ways(2, 0, 9), 3);
        came(x -> x.ways(2, 0, 12), 3);
        came(x -> x.ways(2, 0, 15), 3);
        came(x -> x.ways(2, 9, 6), 0);
        long[][] none = {{-1, 0, 1}, {7, 0, 1}, {0, -1, 1}, {0, 7, 1}, {3, 3, 1}, {0, 1, -1}, {0, 1, 0}, {0, 1, 61}};
        for (long[] one : none) {
            Maker maker = () -> {
                TwoHousesBehind x = rich();
                fill(x, 2, 2, 0, 6, 2, one[0], one[1], one[2], 0, 6, 3);
                return x;
            };
            due(answered(maker, x -> x.ways(2, 0, 9), 1).status(1), 10);
            idle(maker, x -> x.ways(2, 3, 6), 0);
        }
        long[][] last = {{0, 6, 1}, {6, 0, 60}, {5, 6, 59}};
        for (long[] one : last) {
            Maker maker = () -> {
                TwoHousesBehind x = rich();
                fill(x, 2, 2, one);
                return x;
            };
            due(answered(maker, x -> x.ways(2, 0, 3), 1).wayOf(9, 2), one[2]);
        }
    }

    static void promise11_untilThereIsNoRoom() {
        for (int has = 9; has <= 12; has++) {
            int ways = has;
            Maker maker = () -> {
                TwoHousesBehind x = told();
                for (int i = 9; i < ways; i++) {
                    x.way(0, 1, 1);
                }
                return x;
            };
            TwoHousesBehind x = answered(maker, y -> y.ways(2, 0, 9), 12 - has);
            due(x.status(1), 12);
            due(x.status(17), 1);
        }
        idle(Edges::full, x -> x.ways(2, 0, 3), 0);
    }

    static void promise11_asInts() {
        Maker maker = () -> {
            TwoHousesBehind x = rich();
            fill(x, 3, 3, 1L << 32, (1L << 40) + 1, (7L << 32) + 60, 0, 1, (1L << 31) + 1, 0, 1, 1L << 32);
            return x;
        };
        TwoHousesBehind x = answered(maker, y -> y.ways(3, 0, 9), 1);
        dues(new long[] {x.wayOf(9, 0), x.wayOf(9, 1), x.wayOf(9, 2)}, 0, 1, 60);
        idle(maker, y -> y.ways(3, 6, 3), 0);
    }

    // ---- promise 12: shut

    static void promise12_minus1NoSuchWay() {
        refused(Edges::rich, x -> x.shut(-1, true), -1);
        answered(Edges::rich, x -> x.shut(0, true), 1);
        answered(Edges::rich, x -> x.shut(8, true), 1);
        refused(Edges::rich, x -> x.shut(9, true), -1);
        refused(Edges::rich, x -> x.shut(9, false), -1);
        refused(Edges::rich, x -> x.shut(LEAST, true), -1);
        refused(Edges::rich, x -> x.shut(MOST, false), -1);
        answered(Edges::full, x -> x.shut(11, true), 1);
        refused(Edges::full, x -> x.shut(12, true), -1);
    }

    static void promise12_0IfItWasSo() {
        idle(Edges::rich, x -> x.shut(2, true), 0);
        idle(Edges::rich, x -> x.shut(0, false), 0);
        due(answered(Edges::rich, x -> x.shut(2, false), 1).status(2), 1);
        due(answered(Edges::rich, x -> x.shut(0, true), 1).status(2), 3);
    }

    // ---- promise 13: lag

    static void promise13_1To3() {
        refused(Edges::rich, x -> x.lag(LEAST), -6);
        refused(Edges::rich, x -> x.lag(-1), -6);
        refused(Edges::rich, x -> x.lag(0), -6);
        due(answered(Edges::rich, x -> x.lag(1), 3).status(3), 1);
        due(answered(Edges::rich, x -> x.lag(2), 3).status(3), 2);
        due(answered(Edges::rich, x -> x.lag(3), 3).status(3), 3);
        refused(Edges::rich, x -> x.lag(4), -6);
        refused(Edges::rich, x -> x.lag(MOST), -6);
    }

    static void promise13_nothingIsBehindThenIfItIsTheSameToo() {
        for (int v = 1; v <= 3; v++) {
            int lag = v;
            TwoHousesBehind x = answered(Edges::rich, y -> y.lag(lag), 3);
            for (int i = 0; i < lag; i++) {
                due(x.behind(i), 0);
            }
            due(x.next(), 0);
            due(x.lag(3), lag);
            dues(new long[] {x.behind(0), x.behind(1), x.behind(2)}, 0, 0, 0);
        }
    }

    static void promise13_theBirdAndAllElseStay() {
        TwoHousesBehind x = answered(Edges::rich, y -> y.lag(1), 3);
        dues(new long[] {x.where(), x.houseOf(2, 3), x.houseOf(2, 4), x.status(4), x.status(5)}, 2, 68, 2, 23, 7);
    }

    // ---- promise 14: said

    static void promise14_minus1NoSuchHouse() {
        refused(Edges::rich, x -> x.said(-1, 0), -1);
        answered(Edges::rich, x -> x.said(0, 0), 1);
        answered(Edges::rich, x -> x.said(6, 0), 64);
        refused(Edges::rich, x -> x.said(7, 0), -1);
        refused(Edges::rich, x -> x.said(MOST, 0), -1);
        answered(Edges::full, x -> x.said(7, 0), 128);
        refused(Edges::full, x -> x.said(8, 0), -1);
    }

    static void promise14_minus6ASetBut0To255() {
        refused(Edges::rich, x -> x.said(0, -1), -6);
        due(answered(Edges::rich, x -> x.said(0, 0), 1).houseOf(0, 1), 0);
        due(answered(Edges::rich, x -> x.said(0, 1), 1).houseOf(0, 1), 1);
        due(answered(Edges::rich, x -> x.said(0, 254), 1).houseOf(0, 1), 254);
        due(answered(Edges::rich, x -> x.said(0, 255), 1).houseOf(0, 1), 255);
        refused(Edges::rich, x -> x.said(0, 256), -6);
        refused(Edges::rich, x -> x.said(0, LEAST), -6);
        refused(Edges::rich, x -> x.said(0, MOST), -6);
    }

    static void promise14_refusalsInTheirOrder() {
        refused(Edges::rich, x -> x.said(7, 256), -1);
        refused(Edges::rich, x -> x.said(-1, -1), -1);
    }

    // ---- promise 15: houseOf

    static void promise15_minus5NoSuchHouse() {
        refused(Edges::rich, x -> x.houseOf(-1, 0), -5);
        idle(Edges::rich, x -> x.houseOf(0, 0), 0);
        idle(Edges::rich, x -> x.houseOf(6, 0), 6);
        refused(Edges::rich, x -> x.houseOf(7, 0), -5);
        refused(Edges::rich, x -> x.houseOf(LEAST, 0), -5);
        refused(Edges::rich, x -> x.houseOf(MOST, 0), -5);
        idle(Edges::full, x -> x.houseOf(7, 1), 128);
        refused(Edges::full, x -> x.houseOf(8, 1), -5);
    }

    static void promise15_minus5AnotherWhat() {
        refused(Edges::rich, x -> x.houseOf(2, -1), -5);
        long[] due = {2, 4, 3, 68, 2};
        for (int what = 0; what < 5; what++) {
            int of = what;
            idle(Edges::rich, x -> x.houseOf(2, of), due[of]);
        }
        refused(Edges::rich, x -> x.houseOf(2, 5), -5);
        refused(Edges::rich, x -> x.houseOf(2, LEAST), -5);
        refused(Edges::rich, x -> x.houseOf(2, MOST), -5);
        refused(Edges::rich, x -> x.houseOf(-1, 5), -5);
    }

    // ---- promise 16: wayOf

    static void promise16_minus5NoSuchWay() {
        refused(Edges::rich, x -> x.wayOf(-1, 2), -5);
        idle(Edges::rich, x -> x.wayOf(0, 2), 5);
        idle(Edges::rich, x -> x.wayOf(8, 2), 7);
        refused(Edges::rich, x -> x.wayOf(9, 2), -5);
        refused(Edges::rich, x -> x.wayOf(LEAST, 0), -5);
        refused(Edges::rich, x -> x.wayOf(MOST, 0), -5);
        idle(Edges::full, x -> x.wayOf(11, 2), 60);
        refused(Edges::full, x -> x.wayOf(12, 2), -5);
    }

    static void promise16_minus5AnotherWhat() {
        refused(Edges::rich, x -> x.wayOf(5, -1), -5);
        long[] due = {5, 0, 10, 1};
        for (int what = 0; what < 4; what++) {
            int of = what;
            idle(Edges::rich, x -> x.wayOf(5, of), due[of]);
        }
        idle(Edges::rich, x -> x.wayOf(4, 3), 0);
        refused(Edges::rich, x -> x.wayOf(5, 4), -5);
        refused(Edges::rich, x -> x.wayOf(5, LEAST), -5);
        refused(Edges::rich, x -> x.wayOf(5, MOST), -5);
        refused(Edges::rich, x -> x.wayOf(-1, 4), -5);
    }

    // ---- promise 17: street

    private static Maker with(Maker maker, String text) {
        return () -> {
            TwoHousesBehind x = maker.make();
            text(x, 6, text);
            return x;
        };
    }

    /** The text is a street: its items are told, and there is no fault. */
    private static TwoHousesBehind street(Maker maker, String text, int items) {
        TwoHousesBehind x = answered(with(maker, text), y -> y.street(6), items);
        due(x.fault(), NONE);
        return x;
    }

    /** The text has a fault at a place: nothing is told. */
    private static void fault(Maker maker, String text, int place) {
        refused(with(maker, text), x -> x.street(6), -6, place);
    }

    static void promise17_shelves0To7() {
        refused(Edges::rich, x -> x.street(-1), -1);
        refused(Edges::rich, x -> x.street(8), -1);
        refused(Edges::rich, x -> x.street(LEAST), -1);
        refused(Edges::rich, x -> x.street(0), -6, 0);
        refused(Edges::rich, x -> x.street(7), -6, 0);
    }

    static void promise17_minus2AHouseMinus3Nothing() {
        refused(Edges::rich, x -> x.street(4), -2);
        refused(Edges::rich, x -> x.street(5), -2);
        refused(Edges::rich, x -> x.street(6), -3);
    }

    static void promise17_oneItemAtLeast() {
        fault(Edges::rich, "", 0);
        street(Edges::rich, "lag 1", 1);
        street(Edges::rich, "lag 1;lag 2", 2);
        fault(Edges::rich, ";lag 1", 0);
        fault(Edges::rich, "lag 1;", 6);
        fault(Edges::rich, "lag 1;;lag 2", 6);
        fault(Edges::rich, ";", 0);
    }

    static void promise17_160Letters() {
        String text = "lag 1;".repeat(23);
        due(street(Edges::bare, text + "lag 001;lag 001;lag 3", 26).status(3), 3);
        due(street(Edges::bare, text + "lag 001;lag 001;lag 03", 26).status(3), 3);
        fault(Edges::bare, text + "lag 001;lag 001;lag 04", 158);
        fault(Edges::bare, text + "lag 001;lag 001;lag 1;", 160);
        fault(Edges::bare, text + "lag 001;lag 001;lag 1x", 159);
    }

    private static final String ALL = "house 6 255 12;way 0 1 60;shut 1;lag 3;bird 1";

    static void promise17_theNumberOfElementsIfItEndsTooEarly() {
        String whole = " 14 13 24 25 32 38 45 ";
        for (int length = 0; length <= ALL.length(); length++) {
            String text = ALL.substring(0, length);
            if (whole.contains(" " + length + " ")) {
                street(() -> line(2, 2), text, text.split(";").length);
            } else {
                fault(() -> line(2, 2), text, length);
            }
        }
    }

    static void promise17_theFirstPlaceAtWhichAnElementCannotStand() {
        for (int i = 0; i < ALL.length(); i++) {
            fault(() -> line(2, 2), ALL.substring(0, i) + "!" + ALL.substring(i + 1), i);
            fault(() -> line(2, 2), ALL.substring(0, i) + "!", i);
        }
        for (int i = 0; i < 5; i++) {
            String word = new String[] {"house 0 0 0", "way 0 1 1", "shut 0", "lag 1", "bird 0"}[i];
            fault(() -> line(2, 2), Character.toUpperCase(word.charAt(0)) + word.substring(1), 0);
            fault(() -> line(2, 2), " " + word, 0);
            fault(() -> line(2, 2), word + " ", word.length());
            fault(() -> line(2, 2), word + "!", word.length());
            fault(() -> line(2, 2), word + " 0", word.length());
            fault(() -> line(2, 2), word + "; " + word, word.length() + 1);
            fault(() -> line(2, 2), word + "," + word, word.length());
        }
    }

    static void promise17_oneBlankBetween() {
        fault(Edges::rich, "lag1", 3);
        street(Edges::rich, "lag 1", 1);
        fault(Edges::rich, "lag  1", 4);
        fault(Edges::rich, "house 0  0 0", 8);
        fault(Edges::rich, "house 0 0  0", 10);
        fault(Edges::rich, "way 0  1 1", 6);
        fault(Edges::rich, "house 0,0 0", 7);
    }

    static void promise17_numbersOf1To3Digits() {
        fault(Edges::rich, "house 0 0 ", 10);
        fault(Edges::rich, "house 0 0 ;", 10);
        street(Edges::rich, "house 0 0 9", 1);
        street(Edges::rich, "house 0 0 99", 1);
        due(street(Edges::rich, "house 0 0 199", 1).houseOf(7, 2), 199);
        due(street(Edges::rich, "house 006 009 010", 1).houseOf(7, 2), 10);
        // behind three digits that may be, a fourth can't stand
        fault(Edges::rich, "house 0 0 1999", 13);
        fault(Edges::rich, "house 0 0 0001", 13);
        fault(Edges::rich, "house 0000 0 0", 9);
        fault(Edges::rich, "house -1 0 0", 6);
        fault(Edges::rich, "house +1 0 0", 6);
        fault(Edges::rich, "house 0 0 /", 10);
        fault(Edges::rich, "house 0 0 :", 10);
    }

    static void promise17_kindsOfHouses0To6() {
        due(street(Edges::rich, "house 0 1 2", 1).houseOf(7, 0), 0);
        due(street(Edges::rich, "house 5 1 2", 1).houseOf(7, 0), 5);
        due(street(Edges::rich, "house 6 1 2", 1).houseOf(7, 0), 6);
        fault(Edges::rich, "house 7 1 2", 6);
        fault(Edges::rich, "house 10 1 2", 6);
        fault(Edges::rich, "house 999 1 2", 6);
    }

    static void promise17_saidAndA0To255() {
        due(street(Edges::rich, "house 0 0 2", 1).houseOf(7, 1), 0);
        due(street(Edges::rich, "house 0 254 2", 1).houseOf(7, 1), 254);
        due(street(Edges::rich, "house 0 255 2", 1).houseOf(7, 1), 255);
        fault(Edges::rich, "house 0 256 2", 8);
        fault(Edges::rich, "house 0 999 2", 8);
        due(street(Edges::rich, "house 0 2 0", 1).houseOf(7, 2), 0);
        due(street(Edges::rich, "house 0 2 254", 1).houseOf(7, 2), 254);
        due(street(Edges::rich, "house 0 2 255", 1).houseOf(7, 2), 255);
        fault(Edges::rich, "house 0 2 256", 10);
        fault(Edges::rich, "house 0 2 256;lag 9", 10);
    }

    static void promise17_aHouseIsNewAsByHouse() {
        TwoHousesBehind x = street(Edges::rich, "house 3 7 9", 1);
        dues(new long[] {x.houseOf(7, 0), x.houseOf(7, 1), x.houseOf(7, 2), x.houseOf(7, 3), x.houseOf(7, 4)}, 3, 7, 9, 0, 0);
    }

    static void promise17_housesOfAWayThatThereAre() {
        TwoHousesBehind x = street(Edges::rich, "way 6 0 60", 1);
        dues(new long[] {x.wayOf(9, 0), x.wayOf(9, 1), x.wayOf(9, 2), x.wayOf(9, 3)}, 6, 0, 60, 0);
        fault(Edges::rich, "way 7 0 1", 4);
        fault(Edges::rich, "way 0 7 1", 6);
        due(street(Edges::rich, "way 0 6 1", 1).wayOf(9, 1), 6);
        due(street(Edges::rich, "house 0 0 0;way 7 0 1", 2).wayOf(9, 0), 7);
        fault(Edges::rich, "house 0 0 0;way 8 0 1", 16);
        fault(Edges::rich, "way 7 0 1;house 0 0 0", 4);
        fault(Edges::bare, "way 0 1 1", 4);
        fault(() -> line(1), "way 0 1 1", 6);
        fault(() -> line(1), "way 0 0 1", 6);
        street(() -> line(2), "way 0 1 1", 1);
    }

    static void promise17_ofAWayFromAHouseToItselfJ() {
        fault(Edges::rich, "way 0 0 1", 6);
        fault(Edges::rich, "way 6 6 1", 6);
        fault(Edges::rich, "way 3 003 1", 6);
        fault(Edges::rich, "way 003 3 1", 8);
        fault(Edges::rich, "way 3 3", 6);
    }

    static void promise17_minutesOfAWay1To60() {
        fault(Edges::rich, "way 0 1 0", 8);
        due(street(Edges::rich, "way 0 1 1", 1).wayOf(9, 2), 1);
        due(street(Edges::rich, "way 0 1 59", 1).wayOf(9, 2), 59);
        due(street(Edges::rich, "way 0 1 60", 1).wayOf(9, 2), 60);
        fault(Edges::rich, "way 0 1 61", 8);
        fault(Edges::rich, "way 0 1 000", 8);
        fault(Edges::rich, "way 0 1 600", 8);
    }

    static void promise17_shutAWayThereIs() {
        due(street(Edges::rich, "shut 0", 1).wayOf(0, 3), 1);
        due(street(Edges::rich, "shut 8", 1).wayOf(8, 3), 1);
        due(street(Edges::rich, "shut 2", 1).status(2), 2);
        fault(Edges::rich, "shut 9", 5);
        fault(Edges::rich, "shut 900", 5);
        due(street(Edges::rich, "way 0 1 1;shut 9", 2).wayOf(9, 3), 1);
        fault(Edges::rich, "way 0 1 1;shut 10", 15);
        fault(Edges::rich, "shut 9;way 0 1 1", 5);
        fault(Edges::bare, "shut 0", 5);
        due(street(Edges::full, "shut 11", 1).wayOf(11, 3), 1);
        fault(Edges::full, "shut 12", 5);
    }

    static void promise17_lag1To3NothingIsBehindThen() {
        fault(Edges::rich, "lag 0", 4);
        TwoHousesBehind least = street(Edges::rich, "lag 1", 1);
        dues(new long[] {least.status(3), least.behind(0), least.next()}, 1, 0, 0);
        TwoHousesBehind most = street(Edges::rich, "lag 3", 1);
        dues(new long[] {most.status(3), most.behind(0), most.behind(1), most.behind(2)}, 3, 0, 0, 0);
        dues(new long[] {most.where(), most.status(5)}, 2, 7);
        due(street(Edges::rich, "lag 2", 1).status(3), 2);
        fault(Edges::rich, "lag 4", 4);
        fault(Edges::rich, "lag 999", 4);
    }

    static void promise17_birdInAHouseThereIsWithoutAVisit() {
        TwoHousesBehind x = street(Edges::rich, "bird 2", 1);
        dues(new long[] {x.where(), x.status(3), x.behind(0), x.behind(1), x.behind(2)}, 2, 3, 0, 0, 0);
        dues(new long[] {x.houseOf(2, 4), x.houseOf(2, 3), x.status(4), x.status(5)}, 2, 68, 23, 7);
        due(street(Edges::rich, "bird 0", 1).where(), 0);
        due(street(Edges::rich, "bird 6", 1).where(), 6);
        fault(Edges::rich, "bird 7", 5);
        due(street(Edges::rich, "house 0 0 0;bird 7", 2).where(), 7);
        fault(Edges::bare, "bird 0", 5);
        due(street(Edges::bare, "house 0 0 0;bird 0", 2).where(), 0);
        due(street(Edges::full, "bird 7", 1).where(), 7);
        fault(Edges::full, "bird 8", 5);
    }

    static void promise17_noRoomForAHouseItsWord() {
        Maker seven = () -> line(7);
        due(street(seven, "house 0 0 0", 1).status(0), 8);
        fault(seven, "house 0 0 0;house 0 0 0", 12);
        fault(seven, "house 0 0 0;lag 1;house 9 0 0", 18);
        fault(Edges::full, "house 0 0 0", 0);
        fault(Edges::full, "lag 1;house 0 0 0", 6);
        fault(Edges::full, "house 7 0 0", 0);
        street(() -> line(6), "house 0 0 0;house 0 0 0", 2);
    }

    static void promise17_noRoomForAWayItsWord() {
        Maker eleven = () -> {
            TwoHousesBehind x = line(2);
            for (int way = 1; way < 11; way++) {
                x.way(0, 1, 1);
            }
            return x;
        };
        due(street(eleven, "way 0 1 1", 1).status(1), 12);
        fault(eleven, "way 0 1 1;way 0 1 1", 10);
        fault(Edges::full, "way 0 1 1", 0);
        fault(Edges::full, "lag 1;way 0 1 1", 6);
        fault(Edges::full, "way 0 0 1", 0);
    }

    static void promise17_allOrNothing() {
        fault(Edges::rich, "house 0 0 0;way 0 1 1;shut 0;lag 1;bird 0;x", 42);
        TwoHousesBehind x = street(Edges::rich, "house 0 0 0;way 0 7 1;shut 0;lag 1;bird 0", 5);
        dues(new long[] {x.status(0), x.status(1), x.status(2), x.status(3), x.where()}, 8, 10, 3, 1, 0);
    }

    static void promise17_lettersAsInts() {
        String text = "lag 1";
        for (int sort = 0; sort < 4; sort++) {
            for (int bits = 8; bits <= 32; bits += 8) {
                int of = sort;
                long more = 1L << bits;
                Maker maker = () -> {
                    TwoHousesBehind x = rich();
                    x.row(6, of, 5);
                    for (int i = 0; i < 5; i++) {
                        x.set(6, i, text.charAt(i) + (i == 4 ? more : 0));
                    }
                    return x;
                };
                // the lowest bits that a sort keeps, of longs the lowest 32
                boolean stands = bits >= (sort == 0 ? 8 : sort == 1 ? 16 : 32);
                if (stands) {
                    answered(maker, x -> x.street(6), 1);
                } else {
                    refused(maker, x -> x.street(6), -6, 4);
                }
            }
        }
    }

    // ---- promise 18: fault

    static void promise18_noneYet() {
        idle(Edges::bare, x -> x.fault(), NONE);
    }

    static void promise18_thePlaceOfTheLatest() {
        due(rich().fault(), 3);
        refused(with(Edges::rich, "x"), x -> x.street(6), -6, 0);
        refused(with(Edges::rich, "lag 4"), x -> x.street(6), -6, 4);
        refused(with(Edges::rich, ""), x -> x.street(6), -6, 0);
    }

    static void promise18_noneAfterAStreetWithoutOne() {
        due(answered(with(Edges::rich, "lag 3"), x -> x.street(6), 1).fault(), NONE);
    }

    static void promise18_aStreetThatCameToNoRowLeavesIt() {
        for (int s : new int[] {-1, 8, 4, 6}) {
            TwoHousesBehind x = rich();
            x.street(s);
            due(x.fault(), 3);
        }
        TwoHousesBehind x = bare();
        x.street(0);
        x.street(8);
        due(x.fault(), NONE);
    }

    static void promise18_anImageLeavesIt() {
        due(answered(Edges::rich, x -> x.restore(), 6).fault(), 3);
        due(answered(Edges::rich, x -> x.image(), 7).fault(), 3);
        due(answered(Edges::rich, x -> x.forget(), 3).fault(), 3);
    }
}
