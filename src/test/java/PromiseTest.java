/** Each promise of the document by its number: ordinary calls, the edges it names, refusals in their order. */
public final class PromiseTest {
    private static final Checks C = new Checks("PromiseTest");
    private static final int NONE = TwoHousesBehind.NONE;
    private static final int MOST = Integer.MAX_VALUE;
    private static final int LEAST = Integer.MIN_VALUE;

    /** All kinds, by their numbers. */
    private static final String KINDS =
        "house 0 7 3;house 1 7 3;house 2 4 3;house 3 8 3;house 4 7 3;house 5 131 3;house 6 16 3";
    /** A ring of four: its houses say 1, 2, nothing (a quiet one), 4. The bird is in 0, with nothing behind it. */
    private static final String RING =
        "house 0 1 0;house 0 2 0;house 1 8 0;house 0 4 0;way 0 1 5;way 1 2 3;way 2 3 4;way 3 0 2;bird 0";

    private static TwoHousesBehind ring() {
        return Checks.street(RING);
    }

    private static TwoHousesBehind kinds() {
        return Checks.street(KINDS);
    }

    public static void main(String[] arguments) {
        shelves();
        street();
        texts();
        bird();
        told();
        whatCanBe();
        rest();
        C.due("NONE", NONE, -1);
        C.end();
    }

    private static void shelves() {
        promise1();
        promise2();
        promise3();
        promise4();
        promise5();
        promise6();
        promise7();
        promise8();
    }

    private static void street() {
        promise9();
        promise10();
        promise11();
        promise12();
        promise13();
        promise14();
        promise15();
        promise16();
    }

    private static void texts() {
        promise17();
        promise17Faults();
        promise17Room();
        promise18();
    }

    private static void bird() {
        promise19();
        promise20();
        promise21();
        promise22();
        promise23();
        promise24();
        visitsByKind();
    }

    private static void told() {
        promise25();
        promise26();
        promise27();
        promise28();
        promise29();
    }

    private static void whatCanBe() {
        promise30();
        promise31();
        promise32();
        promise33();
        promise34();
        promise35();
        promise36();
        promise37();
    }

    private static void rest() {
        promise38();
        promise39();
        promise40();
        promise41();
        promise42();
        promise43();
        promise44();
        promise45();
        promise46();
    }

    private static void promise1() {
        TwoHousesBehind x = new TwoHousesBehind();
        int[] status = {0, 0, 0, 2, 0, 0, 1, 0, -1, -1, -1, 0, 0, 0, 0, 0, 0, 0, -1};
        for (int what = 0; what < status.length; what++) {
            C.due("status(" + what + ")", x.status(what), status[what]);
        }
        C.due("where()", x.where(), NONE);
        C.due("next()", x.next(), 0);
        C.due("behind(0)", x.behind(0), 0);
        C.due("behind(1)", x.behind(1), 0);
        C.due("fault()", x.fault(), NONE);
        C.due("trace(0)", x.trace(0), NONE);
        C.due("who(0)", x.who(0), 0);
        for (int s = 0; s < 8; s++) {
            C.due("holds(" + s + ")", x.holds(s), NONE);
        }
        TwoHousesBehind y = new TwoHousesBehind();
        y.house(0, 1, 0);
        C.due("status(0) of another object", x.status(0), 0);
    }

    private static void promise2() {
        TwoHousesBehind x = new TwoHousesBehind();
        C.due("row(0, 0, 0)", x.row(0, 0, 0), 1);
        C.due("row(7, 3, 160)", x.row(7, 3, 160), 1);
        C.due("holds(7)", x.holds(7), 103);
        C.due("set(7, 159, 9)", x.set(7, 159, 9), 1);
        C.due("set(7, 0, 9)", x.set(7, 0, 9), 1);
        C.due("row(7, 3, 160)", x.row(7, 3, 160), 1);
        C.due("element(7, 0) of the new ROW", x.element(7, 0), 0);
        C.due("element(7, 159) of the new ROW", x.element(7, 159), 0);
        C.due("row(7, 2, 1)", x.row(7, 2, 1), 1);
        C.due("holds(7)", x.holds(7), 102);
        x.house(0, 0, 0);
        x.show(6, 0);
        C.due("row(6, 1, 3) where a HOUSE was", x.row(6, 1, 3), 1);
        C.due("holds(6)", x.holds(6), 101);
        C.refused(x, "row(-1, 0, 1)", () -> x.row(-1, 0, 1), -1);
        C.refused(x, "row(8, 4, -1)", () -> x.row(8, 4, -1), -1);
        C.refused(x, "row(7, 4, -1)", () -> x.row(7, 4, -1), -4);
        C.refused(x, "row(7, 0, LEAST)", () -> x.row(7, 0, LEAST), -4);
        C.refused(x, "row(7, 4, 161)", () -> x.row(7, 4, 161), -6);
        C.refused(x, "row(7, -1, 1)", () -> x.row(7, -1, 1), -6);
        C.refused(x, "row(7, 0, 161)", () -> x.row(7, 0, 161), -7);
        C.refused(x, "row(7, 3, MOST)", () -> x.row(7, 3, MOST), -7);
    }

    private static void promise3() {
        TwoHousesBehind x = kinds();
        long[] put = {200, 256, -129, 40000, 65536, 3000000000L, (1L << 32) + 5, Long.MIN_VALUE, -1};
        for (int sort = 0; sort < 4; sort++) {
            x.row(sort, sort, 9);
            for (int i = 0; i < 9; i++) {
                C.due("set(" + sort + ", " + i + ", " + put[i] + ")", x.set(sort, i, put[i]), 1);
                long due = sort == 0 ? (byte) put[i] : sort == 1 ? (short) put[i] : sort == 2 ? (int) put[i] : put[i];
                C.due("element(" + sort + ", " + i + ")", x.element(sort, i), due);
            }
        }
        x.show(5, 0);
        C.refused(x, "set(8, 0, 1)", () -> x.set(8, 0, 1), -1);
        C.refused(x, "set(-1, -1, 1)", () -> x.set(-1, -1, 1), -1);
        C.refused(x, "set(5, -1, 1)", () -> x.set(5, -1, 1), -2);
        C.refused(x, "set(6, -1, 1)", () -> x.set(6, -1, 1), -3);
        C.refused(x, "set(0, -1, 1)", () -> x.set(0, -1, 1), -5);
        C.refused(x, "set(0, 9, 1)", () -> x.set(0, 9, 1), -5);
        C.refused(x, "set(0, MOST, 1)", () -> x.set(0, MOST, 1), -5);
    }

    private static void dueRow(TwoHousesBehind x, String call, int s, long... elements) {
        for (int i = 0; i < elements.length; i++) {
            C.due(call + ", then element(" + s + ", " + i + ")", x.element(s, i), elements[i]);
        }
    }

    private static void promise4() {
        TwoHousesBehind x = kinds();
        Checks.row(x, 0, 1, 2, 3, 4, 5);
        Checks.row(x, 1, 11, 12, 13);
        C.due("copy(0, 1, 3, 1, 2)", x.copy(0, 1, 3, 1, 2), 1);
        dueRow(x, "copy(0, 1, 3, 1, 2)", 1, 11, 4, 5, 0);
        C.due("copy(0, 0, 0, 1, 4)", x.copy(0, 0, 0, 1, 4), 1);
        dueRow(x, "copy(0, 0, 0, 1, 4)", 0, 1, 1, 2, 3, 4);
        C.due("copy(0, 0, 2, 0, 3)", x.copy(0, 0, 2, 0, 3), 1);
        dueRow(x, "copy(0, 0, 2, 0, 3)", 0, 2, 3, 4, 3, 4);
        C.due("copy(0, 1, 5, 3, 0)", x.copy(0, 1, 5, 3, 0), 1);
        x.show(4, 0);
        x.row(5, 3, 4);
        C.refused(x, "copy(8, 4, 0, 0, 1)", () -> x.copy(8, 4, 0, 0, 1), -1);
        C.refused(x, "copy(4, -1, 0, 0, 1)", () -> x.copy(4, -1, 0, 0, 1), -1);
        C.refused(x, "copy(4, 0, 0, 0, -1)", () -> x.copy(4, 0, 0, 0, -1), -2);
        C.refused(x, "copy(0, 4, 0, 0, 1)", () -> x.copy(0, 4, 0, 0, 1), -2);
        C.refused(x, "copy(4, 6, 0, 0, 1)", () -> x.copy(4, 6, 0, 0, 1), -2);
        C.refused(x, "copy(6, 4, 0, 0, 1)", () -> x.copy(6, 4, 0, 0, 1), -2);
        C.refused(x, "copy(0, 5, 0, 0, -1)", () -> x.copy(0, 5, 0, 0, -1), -2);
        C.refused(x, "copy(0, 6, 0, 0, -1)", () -> x.copy(0, 6, 0, 0, -1), -3);
        promise4Ends();
    }

    private static void promise4Ends() {
        TwoHousesBehind x = kinds();
        Checks.row(x, 0, 1, 2, 3, 4, 5);
        Checks.row(x, 1, 11, 12, 13);
        C.refused(x, "copy(6, 0, 0, 0, 1)", () -> x.copy(6, 0, 0, 0, 1), -3);
        C.refused(x, "copy(0, 1, -1, -1, -1)", () -> x.copy(0, 1, -1, -1, -1), -4);
        C.refused(x, "copy(0, 1, -1, 0, 1)", () -> x.copy(0, 1, -1, 0, 1), -5);
        C.refused(x, "copy(0, 1, 0, -1, 1)", () -> x.copy(0, 1, 0, -1, 1), -5);
        C.refused(x, "copy(0, 1, 4, 0, 2)", () -> x.copy(0, 1, 4, 0, 2), -5);
        C.refused(x, "copy(0, 1, 0, 2, 2)", () -> x.copy(0, 1, 0, 2, 2), -5);
        C.refused(x, "copy(0, 1, 6, 0, 0)", () -> x.copy(0, 1, 6, 0, 0), -5);
        C.refused(x, "copy(0, 1, 0, 4, 0)", () -> x.copy(0, 1, 0, 4, 0), -5);
        C.refused(x, "copy(0, 1, MOST, 0, MOST)", () -> x.copy(0, 1, MOST, 0, MOST), -5);
        C.refused(x, "copy(0, 1, 1, 1, MOST)", () -> x.copy(0, 1, 1, 1, MOST), -5);
    }

    private static void promise5() {
        TwoHousesBehind x = kinds();
        Checks.row(x, 0, 1, 2);
        x.show(1, 1);
        C.due("element(0, 1)", x.element(0, 1), 2);
        int[][] none = {{0, 2}, {0, -1}, {0, MOST}, {1, 0}, {2, 0}, {-1, 0}, {8, 0}, {LEAST, 0}, {-1, 160}};
        for (int[] at : none) {
            C.due("element(" + at[0] + ", " + at[1] + ")", x.element(at[0], at[1]), 0);
        }
        for (int what = 11; what <= 17; what++) {
            C.due("status(" + what + ")", x.status(what), 0);
        }
        x.show(0, 2);
        C.due("element(0, 0) of a HOUSE", x.element(0, 0), 0);
        C.due("element(0, 1) of a HOUSE", x.element(0, 1), 0);
    }

    private static void promise6() {
        TwoHousesBehind x = kinds();
        C.due("show(0, 6)", x.show(0, 6), 1);
        C.due("holds(0)", x.holds(0), 6);
        C.due("show(0, 0)", x.show(0, 0), 1);
        C.due("holds(0)", x.holds(0), 0);
        C.due("show(0, NONE)", x.show(0, NONE), 0);
        C.due("holds(0)", x.holds(0), NONE);
        C.due("show(0, NONE) again", x.show(0, NONE), 0);
        x.row(7, 0, 1);
        C.due("show(7, 1) where a ROW was", x.show(7, 1), 1);
        C.refused(x, "show(8, 0)", () -> x.show(8, 0), -1);
        C.refused(x, "show(-1, NONE)", () -> x.show(-1, NONE), -1);
        C.refused(x, "show(0, 7)", () -> x.show(0, 7), -1);
        C.refused(x, "show(0, -2)", () -> x.show(0, -2), -1);
    }

    private static void promise7() {
        TwoHousesBehind x = kinds();
        for (int sort = 0; sort < 4; sort++) {
            x.row(sort, sort, 0);
            C.due("holds(" + sort + ")", x.holds(sort), 100 + sort);
        }
        x.show(4, 5);
        C.due("holds(4)", x.holds(4), 5);
        C.due("holds(5)", x.holds(5), NONE);
        C.due("holds(-1)", x.holds(-1), NONE);
        C.due("holds(8)", x.holds(8), NONE);
        C.due("status(11)", x.status(11), 0);
    }

    private static void promise8() {
        TwoHousesBehind x = Checks.street("house 0 7 3;house 1 7 4;house 2 4 5;house 3 8 6;house 4 7 1;house 5 129 1");
        x.house(6, 16, 2);
        for (int house = 0; house < 7; house++) {
            x.show(house, house);
        }
        int[] asHouse = {7, 0, 4, 11, 6, 1, 0};
        for (int s = 0; s < 7; s++) {
            C.due("says(" + s + ", HOUSE)", x.says(s, 0), asHouse[s]);
        }
        C.due("says(1, QUIET)", x.says(1, 1), 7);
        // at its third visit in a row the bird says what was said at the first one
        x.put(4);
        x.put(2);
        x.put(2);
        x.put(3);
        x.put(3);
        C.due("says(2, ECHO)", x.says(2, 2), 7);
        C.due("says(3, ECHO)", x.says(3, 2), 4);
        C.due("says(3, GOSSIP)", x.says(3, 3), 4);
        C.due("says(4, SHY)", x.says(4, 4), 1);
        C.due("says(5, SHY)", x.says(5, 4), 1);
        C.due("says(5, TWIST)", x.says(5, 5), 1);
        int[] left = {2, 1, 0, 0};
        for (int i = 0; i < left.length; i++) {
            C.due("says(6, LATE)", x.says(6, 6), left[i]);
            C.due("says(6, HOUSE)", x.says(6, 0), left[i] > 0 ? 0 : 16);
            x.put(6);
        }
        promise8Refusals(x);
    }

    private static void promise8Refusals(TwoHousesBehind x) {
        x.row(0, 0, 1);
        x.show(7, NONE);
        C.refused(x, "says(8, 0)", () -> x.says(8, 0), -1);
        C.refused(x, "says(-1, 0)", () -> x.says(-1, 0), -1);
        C.refused(x, "says(0, 7)", () -> x.says(0, 7), -1);
        C.refused(x, "says(7, -1)", () -> x.says(7, -1), -1);
        C.refused(x, "says(0, 1) of a ROW", () -> x.says(0, 1), -2);
        C.refused(x, "says(2, GOSSIP) of an ECHO", () -> x.says(2, 3), -2);
        C.refused(x, "says(4, TWIST) of a SHY", () -> x.says(4, 5), -2);
        C.refused(x, "says(5, ECHO) of a TWIST", () -> x.says(5, 2), -2);
        C.refused(x, "says(7, 6) of NOTHING", () -> x.says(7, 6), -3);
    }

    private static void promise9() {
        TwoHousesBehind x = new TwoHousesBehind();
        C.due("house(6, 255, 255)", x.house(6, 255, 255), 0);
        C.due("houseOf(0, 0)", x.houseOf(0, 0), 6);
        C.due("houseOf(0, 1)", x.houseOf(0, 1), 255);
        C.due("houseOf(0, 2)", x.houseOf(0, 2), 255);
        C.refused(x, "house(-1, 256, 0)", () -> x.house(-1, 256, 0), -1);
        C.refused(x, "house(7, 0, 0)", () -> x.house(7, 0, 0), -1);
        C.refused(x, "house(0, 256, 0)", () -> x.house(0, 256, 0), -6);
        C.refused(x, "house(0, -1, 0)", () -> x.house(0, -1, 0), -6);
        C.refused(x, "house(0, 0, 256)", () -> x.house(0, 0, 256), -6);
        C.refused(x, "house(0, 0, -1)", () -> x.house(0, 0, -1), -6);
        for (int i = 1; i < 8; i++) {
            C.due("house(0, 0, 0)", x.house(0, 0, 0), i);
        }
        C.due("houseOf(7, 3)", x.houseOf(7, 3), 0);
        C.due("houseOf(7, 4)", x.houseOf(7, 4), 0);
        C.refused(x, "house(7, 0, 0) without room", () -> x.house(7, 0, 0), -1);
        C.refused(x, "house(0, 0, 256) without room", () -> x.house(0, 0, 256), -6);
        C.refused(x, "house(0, 0, 0) without room", () -> x.house(0, 0, 0), -7);
    }

    private static void promise10() {
        TwoHousesBehind x = Checks.street("house 0 0 0;house 0 0 0");
        C.due("way(0, 1, 1)", x.way(0, 1, 1), 0);
        C.due("way(1, 0, 60)", x.way(1, 0, 60), 1);
        C.due("wayOf(1, 0)", x.wayOf(1, 0), 1);
        C.due("wayOf(1, 1)", x.wayOf(1, 1), 0);
        C.due("wayOf(1, 2)", x.wayOf(1, 2), 60);
        C.due("wayOf(1, 3)", x.wayOf(1, 3), 0);
        C.refused(x, "way(2, 0, 0)", () -> x.way(2, 0, 0), -1);
        C.refused(x, "way(0, -1, 1)", () -> x.way(0, -1, 1), -1);
        C.refused(x, "way(2, 2, 1)", () -> x.way(2, 2, 1), -1);
        C.refused(x, "way(0, 0, 1)", () -> x.way(0, 0, 1), -6);
        C.refused(x, "way(0, 1, 0)", () -> x.way(0, 1, 0), -6);
        C.refused(x, "way(0, 1, 61)", () -> x.way(0, 1, 61), -6);
        for (int i = 2; i < 12; i++) {
            C.due("way(0, 1, 7)", x.way(0, 1, 7), i);
        }
        C.refused(x, "way(0, 2, 7) without room", () -> x.way(0, 2, 7), -1);
        C.refused(x, "way(0, 0, 7) without room", () -> x.way(0, 0, 7), -6);
        C.refused(x, "way(0, 1, 7) without room", () -> x.way(0, 1, 7), -7);
    }

    private static void promise11() {
        TwoHousesBehind x = Checks.street("house 0 0 0;house 0 0 0;house 0 0 0");
        Checks.row(x, 0, 9, 0, 1, 5, 1, 2, 60, 0, 0, 1, 0, 2, 3);
        C.due("ways(0, 1, 0)", x.ways(0, 1, 0), 0);
        C.due("ways(0, 13, 0)", x.ways(0, 13, 0), 0);
        C.due("ways(0, 1, 6)", x.ways(0, 1, 6), 2);
        int[] way = {1, 2, 60, 0};
        for (int what = 0; what < 4; what++) {
            C.due("wayOf(1, " + what + ")", x.wayOf(1, what), way[what]);
        }
        C.due("ways(0, 4, 9) up to one that can't be", x.ways(0, 4, 9), 1);
        C.due("ways(0, 7, 3)", x.ways(0, 7, 3), 0);
        C.due("status(1)", x.status(1), 3);
        C.due("status(16)", x.status(16), 0);
        x.row(1, 3, 3);
        x.set(1, 0, 1L << 32);
        x.set(1, 1, (5L << 32) + 1);
        x.set(1, 2, (7L << 32) + 9);
        C.due("ways(1, 0, 3) of longs", x.ways(1, 0, 3), 1);
        C.due("wayOf(3, 2)", x.wayOf(3, 2), 9);
        x.show(2, 0);
        C.refused(x, "ways(8, -1, -1)", () -> x.ways(8, -1, -1), -1);
        C.refused(x, "ways(2, -1, -1)", () -> x.ways(2, -1, -1), -2);
        C.refused(x, "ways(3, -1, -1)", () -> x.ways(3, -1, -1), -3);
        C.refused(x, "ways(0, -1, -1)", () -> x.ways(0, -1, -1), -4);
        C.refused(x, "ways(0, -1, 1)", () -> x.ways(0, -1, 1), -5);
        C.refused(x, "ways(0, 11, 4)", () -> x.ways(0, 11, 4), -5);
        C.refused(x, "ways(0, MOST, MOST)", () -> x.ways(0, MOST, MOST), -5);
        C.refused(x, "ways(0, 1, 4)", () -> x.ways(0, 1, 4), -6);
        promise11Room();
    }

    private static void promise11Room() {
        TwoHousesBehind x = Checks.street("house 0 0 0;house 0 0 0");
        x.row(0, 0, 45);
        for (int i = 0; i < 45; i++) {
            x.set(0, i, i % 3);
        }
        for (int i = 2; i < 45; i += 3) {
            x.set(0, i, i);
        }
        C.due("ways(0, 0, 45)", x.ways(0, 0, 45), 12);
        C.due("ways(0, 0, 45) without room", x.ways(0, 0, 45), 0);
        C.due("wayOf(11, 2)", x.wayOf(11, 2), 35);
        C.due("status(1)", x.status(1), 12);
        C.due("status(17)", x.status(17), 0);
    }

    private static void promise12() {
        TwoHousesBehind x = ring();
        C.due("shut(0, false)", x.shut(0, false), 0);
        C.due("shut(0, true)", x.shut(0, true), 1);
        C.due("shut(0, true)", x.shut(0, true), 0);
        C.due("wayOf(0, 3)", x.wayOf(0, 3), 1);
        C.due("status(2)", x.status(2), 1);
        C.due("between(0, 1)", x.between(0, 1), NONE);
        C.due("shut(0, false)", x.shut(0, false), 1);
        C.due("wayOf(0, 3)", x.wayOf(0, 3), 0);
        C.refused(x, "shut(4, true)", () -> x.shut(4, true), -1);
        C.refused(x, "shut(-1, false)", () -> x.shut(-1, false), -1);
    }

    private static void promise13() {
        TwoHousesBehind x = ring();
        x.put(0);
        x.put(1);
        C.due("next()", x.next(), 1);
        C.due("lag(2) as it was", x.lag(2), 2);
        C.due("next()", x.next(), 0);
        C.due("behind(0)", x.behind(0), 0);
        C.due("lag(3)", x.lag(3), 2);
        C.due("lag(1)", x.lag(1), 3);
        C.due("status(3)", x.status(3), 1);
        C.due("put(0)", x.put(0), 0);
        C.due("put(1)", x.put(1), 1);
        C.refused(x, "lag(0)", () -> x.lag(0), -6);
        C.refused(x, "lag(4)", () -> x.lag(4), -6);
        C.due("lag(3)", x.lag(3), 1);
        x.put(3);
        x.put(1);
        x.put(2);
        C.due("next() of LAG 3", x.next(), 4);
    }

    private static void promise14() {
        TwoHousesBehind x = ring();
        C.due("said(3, 255)", x.said(3, 255), 4);
        C.due("said(3, 0)", x.said(3, 0), 255);
        C.due("houseOf(3, 1)", x.houseOf(3, 1), 0);
        C.due("answer(3, 0)", x.answer(3, 0), 0);
        C.refused(x, "said(4, 256)", () -> x.said(4, 256), -1);
        C.refused(x, "said(-1, 0)", () -> x.said(-1, 0), -1);
        C.refused(x, "said(0, 256)", () -> x.said(0, 256), -6);
        C.refused(x, "said(0, -1)", () -> x.said(0, -1), -6);
    }

    private static void promise15() {
        TwoHousesBehind x = Checks.street("house 0 2 0;house 5 129 7");
        x.put(0);
        x.put(1);
        x.put(1);
        int[] due = {5, 129, 7, 2, 2};
        for (int what = 0; what < 5; what++) {
            C.due("houseOf(1, " + what + ")", x.houseOf(1, what), due[what]);
        }
        C.refused(x, "houseOf(2, 0)", () -> x.houseOf(2, 0), -5);
        C.refused(x, "houseOf(-1, 0)", () -> x.houseOf(-1, 0), -5);
        C.refused(x, "houseOf(0, 5)", () -> x.houseOf(0, 5), -5);
        C.refused(x, "houseOf(1, -1)", () -> x.houseOf(1, -1), -5);
    }

    private static void promise16() {
        TwoHousesBehind x = ring();
        x.shut(3, true);
        int[] due = {3, 0, 2, 1};
        for (int what = 0; what < 4; what++) {
            C.due("wayOf(3, " + what + ")", x.wayOf(3, what), due[what]);
        }
        C.refused(x, "wayOf(4, 0)", () -> x.wayOf(4, 0), -5);
        C.refused(x, "wayOf(-1, 0)", () -> x.wayOf(-1, 0), -5);
        C.refused(x, "wayOf(0, 4)", () -> x.wayOf(0, 4), -5);
        C.refused(x, "wayOf(1, -1)", () -> x.wayOf(1, -1), -5);
    }

    private static void promise17() {
        TwoHousesBehind x = new TwoHousesBehind();
        x.house(0, 9, 9);
        Checks.text(x, 0, "house 6 255 12;way 0 1 60;way 01 000 007;shut 1;lag 3;bird 1");
        C.due("street(0)", x.street(0), 6);
        C.due("fault()", x.fault(), NONE);
        int[] house = {6, 255, 12, 0, 0};
        for (int what = 0; what < 5; what++) {
            C.due("houseOf(1, " + what + ")", x.houseOf(1, what), house[what]);
        }
        int[] way = {1, 0, 7, 1};
        for (int what = 0; what < 4; what++) {
            C.due("wayOf(1, " + what + ")", x.wayOf(1, what), way[what]);
        }
        C.due("where()", x.where(), 1);
        C.due("status(3)", x.status(3), 3);
        C.due("status(5)", x.status(5), 0);
        x.put(0);
        x.put(1);
        x.put(0);
        C.due("next()", x.next(), 9);
        Checks.text(x, 0, "bird 0");
        C.due("street(0) with a bird", x.street(0), 1);
        C.due("next()", x.next(), 0);
        C.due("status(5)", x.status(5), 3);
        x.put(0);
        x.put(1);
        x.put(0);
        Checks.text(x, 0, "lag 3");
        C.due("street(0) with a lag", x.street(0), 1);
        C.due("next()", x.next(), 0);
        promise17Longs();
    }

    private static void promise17Longs() {
        TwoHousesBehind x = kinds();
        String text = "lag 1";
        for (int sort = 1; sort < 4; sort++) {
            x.row(sort, sort, 5);
            for (int i = 0; i < 5; i++) {
                x.set(sort, i, text.charAt(i) + ((long) i << 32));
            }
            C.due("street(" + sort + ")", x.street(sort), 1);
        }
        x.show(4, 0);
        C.refused(x, "street(8)", () -> x.street(8), -1);
        C.refused(x, "street(-1)", () -> x.street(-1), -1);
        C.refused(x, "street(4)", () -> x.street(4), -2);
        C.refused(x, "street(5)", () -> x.street(5), -3);
        Checks.text(x, 6, "house 0 0 0;lag 2;bird 8");
        C.refused(x, "street(6) with a fault", () -> x.street(6), -6);
        C.due("fault()", x.fault(), 23);
    }

    private static void fault(TwoHousesBehind x, String text, int due) {
        Checks.text(x, 7, text);
        C.due("street() of " + text, x.street(7), due == NONE ? text.split(";").length : -6);
        C.due("fault() of " + text, x.fault(), due);
    }

    private static void promise17Faults() {
        TwoHousesBehind x = ring();
        fault(x, "", 0);
        fault(x, "x", 0);
        fault(x, "House 0 0 0", 0);
        fault(x, " lag 1", 0);
        fault(x, "lug 1", 1);
        fault(x, "lagg 1", 3);
        fault(x, "lag", 3);
        fault(x, "lag ", 4);
        fault(x, "lag  1", 4);
        fault(x, "lag x", 4);
        fault(x, "lag 0", 4);
        fault(x, "lag 4", 4);
        fault(x, "lag 12", 4);
        fault(x, "lag 0001", 4);
        fault(x, "lag 0011", 7);
        fault(x, "lag 1 ", 5);
        fault(x, "lag 1;", 6);
        fault(x, "lag 1;;", 6);
        fault(x, "lag 1; lag 1", 6);
        fault(x, "bird 4", 5);
        fault(x, "bird -1", 5);
        TwoHousesBehind y = ring();
        fault(y, "house 7 0 0", 6);
        fault(y, "house 0 256 0", 8);
        fault(y, "house 0 999 0", 8);
        fault(y, "house 0 2550", 11);
        fault(y, "house 0 0 256", 10);
        fault(y, "house 0 0", 9);
        fault(y, "house 0 0;", 9);
        fault(y, "house 0 0 0 0", 11);
        TwoHousesBehind z = ring();
        fault(z, "way 4 0 1", 4);
        fault(z, "way 0 4 1", 6);
        fault(z, "way 0 0 1", 6);
        fault(z, "way 2 02 1", 6);
        fault(z, "way 0 1 0", 8);
        fault(z, "way 0 1 61", 8);
        fault(z, "shut 4", 5);
        fault(z, "shut 4x", 5);
        fault(z, "shut 300;lag 9", 5);
        fault(z, "way 0 1 9;shut 5", 15);
        fault(z, "bird 3;lag 9", 11);
        C.due("where()", z.where(), 0);
        C.due("status(1)", z.status(1), 4);
        C.due("status(16)", z.status(16), 11);
        fault(z, "way 0 1 9;shut 4", NONE);
        C.due("wayOf(4, 3)", z.wayOf(4, 3), 1);
        fault(z, "shut 0", NONE);
        C.due("wayOf(0, 3)", z.wayOf(0, 3), 1);
        fault(z, "shut 0;shut 000", NONE);
        fault(new TwoHousesBehind(), "bird 0", 5);
        fault(new TwoHousesBehind(), "way 0 1 1", 4);
        fault(new TwoHousesBehind(), "shut 0", 5);
    }

    private static void promise17Room() {
        TwoHousesBehind x = kinds();
        fault(x, "house 0 0 0;lag 1;house 0 0 0", 18);
        C.due("status(0)", x.status(0), 7);
        C.due("status(3)", x.status(3), 2);
        fault(x, "house 0 0 0", NONE);
        fault(x, "house 0 0 0", 0);
        for (int i = 0; i < 11; i++) {
            x.way(0, 1, 1);
        }
        fault(x, "way 0 1 1;way 0 1 1", 10);
        fault(x, "way 0 1 1", NONE);
        fault(x, "lag 1;way 0 1 1", 6);
        TwoHousesBehind y = kinds();
        fault(y, "lag 1;lag 2;lag 3;lag 1;lag 2;lag 3;lag 1;lag 2;lag 3;lag 1;lag 2;lag 3;lag 1;lag 2;lag 3;lag 1;"
            + "lag 2;lag 3;lag 1;lag 2;lag 3;lag 1;lag 2;lag 3;lag 1;lag 1;lag ", 160);
        fault(y, "lag 1;lag 2;lag 3;lag 1;lag 2;lag 3;lag 1;lag 2;lag 3;lag 1;lag 2;lag 3;lag 1;lag 2;lag 3;lag 1;"
            + "lag 2;lag 3;lag 1;lag 2;lag 3;lag 1;lag 2;lag 3;lag 1;bird 003", NONE);
    }

    private static void promise18() {
        TwoHousesBehind x = ring();
        C.due("fault()", x.fault(), NONE);
        fault(x, "lag 9", 4);
        x.street(6);
        x.street(9);
        C.due("fault() after calls that came to no ROW", x.fault(), 4);
        C.due("fault() once more", x.fault(), 4);
        fault(x, "lag 2", NONE);
    }

    private static void promise19() {
        TwoHousesBehind x = ring();
        C.due("put(3)", x.put(3), 0);
        C.due("where()", x.where(), 3);
        C.due("put(3) where it is", x.put(3), 0);
        C.due("put(1)", x.put(1), 4);
        C.due("houseOf(1, 3)", x.houseOf(1, 3), 4);
        C.due("houseOf(3, 4)", x.houseOf(3, 4), 2);
        C.due("status(4)", x.status(4), 0);
        C.due("status(5)", x.status(5), 3);
        C.refused(x, "put(4)", () -> x.put(4), -1);
        C.refused(x, "put(-1)", () -> x.put(-1), -1);
    }

    private static void promise20() {
        TwoHousesBehind x = ring();
        C.due("go(0)", x.go(0), 0);
        C.due("where()", x.where(), 1);
        C.due("go(0)", x.go(0), 0);
        C.due("go(3)", x.go(3), 2);
        C.due("where()", x.where(), 3);
        C.due("status(4)", x.status(4), 12);
        C.due("status(5)", x.status(5), 3);
        C.due("houseOf(3, 4)", x.houseOf(3, 4), 1);
        x.shut(2, true);
        C.refused(x, "go(4)", () -> x.go(4), -1);
        C.refused(x, "go(-1)", () -> x.go(-1), -1);
        C.refused(x, "go(2), shut", () -> x.go(2), -6);
        C.refused(x, "go(0), of other HOUSES", () -> x.go(0), -6);
        TwoHousesBehind y = Checks.street("house 0 1 0;house 0 2 0;way 0 1 5");
        C.refused(y, "go(0) from nowhere", () -> y.go(0), -6);
    }

    private static void promise21() {
        TwoHousesBehind x = Checks.street("house 0 1 0;house 0 2 0;way 0 1 5");
        C.due("where()", x.where(), NONE);
        x.put(0);
        C.due("where()", x.where(), 0);
        x.go(0);
        C.due("where()", x.where(), 1);
    }

    private static void promise22() {
        TwoHousesBehind x = ring();
        x.put(3);
        C.due("next()", x.next(), 0);
        x.put(1);
        C.due("next()", x.next(), 4);
        C.due("next() once more", x.next(), 4);
        C.due("status(5)", x.status(5), 2);
        TwoHousesBehind y = Checks.street("house 0 1 0");
        y.image();
        y.put(0);
        y.put(0);
        y.image();
        y.restore();
        C.due("next() by BEHIND", y.next(), 1);
    }

    private static void promise23() {
        TwoHousesBehind x = ring();
        x.lag(3);
        x.put(0);
        x.put(1);
        x.put(3);
        C.due("behind(0)", x.behind(0), 4);
        C.due("behind(1)", x.behind(1), 2);
        C.due("behind(2)", x.behind(2), 1);
        x.put(2);
        C.due("behind(0) of a quiet one", x.behind(0), 0);
        C.due("behind(2)", x.behind(2), 2);
        C.refused(x, "behind(3)", () -> x.behind(3), -5);
        C.refused(x, "behind(-1)", () -> x.behind(-1), -5);
        x.lag(1);
        C.refused(x, "behind(1) of LAG 1", () -> x.behind(1), -5);
    }

    private static void promise24() {
        TwoHousesBehind x = kinds();
        int[] silent = {7, 0, 4, 8, 7, 7, 0};
        int[] spoken = {7, 0, 4, 72, 4, 1, 0};
        for (int house = 0; house < 7; house++) {
            C.due("answer(" + house + ", 0)", x.answer(house, 0), silent[house]);
            C.due("answer(" + house + ", 64)", x.answer(house, 64), house == 5 ? 1 : house == 4 ? 4 : spoken[house]);
        }
        C.due("houseOf(3, 3)", x.houseOf(3, 3), 0);
        x.put(6);
        x.put(6);
        C.due("answer(6, 0) after two visits", x.answer(6, 0), 0);
        x.put(6);
        C.due("answer(6, 0) after three visits", x.answer(6, 0), 16);
        C.refused(x, "answer(7, 256)", () -> x.answer(7, 256), -1);
        C.refused(x, "answer(-1, 0)", () -> x.answer(-1, 0), -1);
        C.refused(x, "answer(0, 256)", () -> x.answer(0, 256), -6);
        C.refused(x, "answer(0, -1)", () -> x.answer(0, -1), -6);
    }

    /** What each kind answers on a visit, seen by what is behind the bird then. */
    private static void visitsByKind() {
        TwoHousesBehind x = Checks.street("house 0 64 0;house 2 4 0;house 3 8 0;house 4 71 64;house 5 195 64");
        x.house(6, 16, 2);
        x.lag(1);
        x.put(0);
        x.put(1);
        C.due("an ECHO answers without what is spoken now", x.behind(0), 4);
        C.due("what an ECHO knows then", x.houseOf(1, 3), 64);
        x.put(1);
        C.due("an ECHO answers what it knew", x.behind(0), 68);
        C.due("what an ECHO knows of its own words", x.houseOf(1, 3), 68);
        x.put(2);
        C.due("a GOSSIP answers what is spoken now", x.behind(0), 76);
        x.put(3);
        C.due("a SHY one", x.behind(0), 7);
        x.put(4);
        C.due("a TWIST", x.behind(0), 7);
        int[] late = {0, 0, 16, 16};
        for (int i = 0; i < late.length; i++) {
            x.put(5);
            C.due("a LATE one, visit " + i, x.behind(0), late[i]);
        }
        x.lag(1);
        x.put(3);
        C.due("a SHY one where nothing is spoken", x.behind(0), 71);
        x.lag(1);
        x.put(4);
        C.due("a TWIST where nothing is spoken", x.behind(0), 135);
    }

    private static void promise25() {
        TwoHousesBehind x = ring();
        C.due("between(0, 1)", x.between(0, 1), 0);
        C.due("between(3, 2)", x.between(3, 2), 2);
        C.due("between(0, 2)", x.between(0, 2), NONE);
        C.due("between(0, 0)", x.between(0, 0), NONE);
        x.way(1, 0, 5);
        C.due("between(0, 1), the least of two alike", x.between(0, 1), 0);
        x.way(1, 0, 4);
        x.way(0, 1, 4);
        C.due("between(0, 1), the one of fewest MINUTES", x.between(0, 1), 5);
        x.shut(5, true);
        C.due("between(1, 0), the one that is open", x.between(1, 0), 6);
        C.refused(x, "between(0, 4)", () -> x.between(0, 4), -11);
        C.refused(x, "between(-1, 0)", () -> x.between(-1, 0), -11);
        TwoHousesBehind y = Checks.street("house 0 1 0;house 0 2 0;way 0 1 5");
        C.due("between(0, 1), the bird nowhere", y.between(0, 1), 0);
    }

    private interface Told {
        int call(TwoHousesBehind x, int s, int n);
    }

    /** What all refuse that tell of a route in a shelf: 0 has a row of five, 1 a house, 2 nothing. */
    private static void refusalsOfTold(String name, Told told, int most) {
        TwoHousesBehind x = ring();
        x.row(0, 2, most);
        x.show(1, 0);
        C.refused(x, name + "(8, -1)", () -> told.call(x, 8, -1), -1);
        C.refused(x, name + "(-1, 0)", () -> told.call(x, -1, 0), -1);
        C.refused(x, name + "(1, -1)", () -> told.call(x, 1, -1), -2);
        C.refused(x, name + "(2, -1)", () -> told.call(x, 2, -1), -3);
        C.refused(x, name + "(0, -1)", () -> told.call(x, 0, -1), -4);
        C.refused(x, name + "(0, one too many)", () -> told.call(x, 0, most + 1), -5);
        x.row(0, 2, most + 1);
        C.refused(x, name + "(0, above what may be)", () -> told.call(x, 0, most + 1), -6);
        TwoHousesBehind y = Checks.street("house 0 1 0;house 0 2 0;way 0 1 5");
        y.row(0, 2, 3);
        C.refused(y, name + "(0, 0) from nowhere", () -> told.call(y, 0, 0), -6);
        C.refused(y, name + "(0, 4) from nowhere", () -> told.call(y, 0, 4), -5);
    }

    private static void promise26() {
        TwoHousesBehind x = ring();
        Checks.row(x, 0, 1, 2, 3, 0, 2, 1);
        C.due("judge(0, 0)", x.judge(0, 0), NONE);
        C.due("judge(0, 4)", x.judge(0, 4), NONE);
        C.due("judge(0, 5)", x.judge(0, 5), 4);
        C.due("judge(0, 6)", x.judge(0, 6), 4);
        x.set(0, 0, 0);
        C.due("judge(0, 1) to where it is", x.judge(0, 1), 0);
        x.set(0, 0, 9);
        C.due("judge(0, 1) to no HOUSE", x.judge(0, 1), 0);
        for (int none = -70; none <= 70; none++) {
            TwoHousesBehind y = ring();
            Checks.row(y, 0, 1, none);
            C.due("judge(0, 2) to " + none, y.judge(0, 2), none == 0 || none == 2 ? NONE : 1);
        }
        x.set(0, 0, -1);
        C.due("judge(0, 1) to no HOUSE", x.judge(0, 1), 0);
        x.set(0, 0, 1);
        x.shut(1, true);
        C.due("judge(0, 4) by a WAY that is shut", x.judge(0, 4), 1);
        x.row(1, 3, 40);
        for (int i = 0; i < 40; i++) {
            x.set(1, i, i % 2 == 0 ? (7L << 32) + 3 : 0);
        }
        C.due("judge(1, 40) of longs", x.judge(1, 40), NONE);
        refusalsOfTold("judge", TwoHousesBehind::judge, 40);
    }

    private static void promise27() {
        TwoHousesBehind x = ring();
        Checks.row(x, 0, 1, 2, 3, 0, 2);
        C.due("minutes(0, 4)", x.minutes(0, 4), 14);
        C.due("minutes(0, 0)", x.minutes(0, 0), 0);
        x.way(0, 1, 1);
        C.due("minutes(0, 1) by the quicker WAY", x.minutes(0, 1), 1);
        C.refused(x, "minutes(0, 5) of no ROUTE", () -> x.minutes(0, 5), -6);
        x.row(1, 0, 40);
        for (int i = 0; i < 40; i++) {
            x.set(1, i, i % 2 == 0 ? 3 : 0);
        }
        C.due("minutes(1, 40)", x.minutes(1, 40), 80);
        C.due("status(4)", x.status(4), 0);
        x.put(2);
        x.set(1, 0, 1);
        C.due("minutes(1, 1) from another HOUSE", x.minutes(1, 1), 3);
        refusalsOfTold("minutes", TwoHousesBehind::minutes, 40);
    }

    private static void promise28() {
        TwoHousesBehind x = ring();
        Checks.row(x, 0, 1, 2, 3, 2, 1, 0, 1, 3);
        C.due("hears(0, 3, 3)", x.hears(0, 3, 3), 2);
        C.due("hears(0, 5, 1)", x.hears(0, 5, 1), 4);
        C.due("hears(0, 7, 1)", x.hears(0, 7, 1), 6);
        C.due("hears(0, 2, 3)", x.hears(0, 2, 3), 0);
        C.due("hears(0, 0, 0)", x.hears(0, 0, 0), 0);
        C.due("houseOf(3, 3)", x.houseOf(3, 3), 0);
        x.put(3);
        x.put(0);
        C.due("hears(0, 1, 1) of what is BEHIND", x.hears(0, 1, 1), 4);
        C.due("hears(0, 2, 2) of what is BEHIND", x.hears(0, 2, 2), 1);
        C.refused(x, "hears(0, 8, 1) of no ROUTE", () -> x.hears(0, 8, 1), -6);
        C.refused(x, "hears(0, -1, 4)", () -> x.hears(0, -1, 4), -1);
        C.refused(x, "hears(2, 0, -1)", () -> x.hears(2, 0, -1), -1);
        refusalsOfTold("hears", (y, s, n) -> y.hears(s, n, 1), 40);
        promise28Kinds();
    }

    /** On a route houses learn and are visited as on a way in truth. */
    private static void promise28Kinds() {
        TwoHousesBehind x = Checks.street("house 2 1 0;house 6 2 1;house 3 4 0;way 0 1 1;way 1 2 1;way 2 0 1;lag 1;bird 0");
        Checks.row(x, 0, 1, 0, 1, 0, 2, 1);
        int[] spoken = {0, 0, 1, 2, 1, 5};
        for (int n = 1; n <= 6; n++) {
            C.due("other(0, " + n + ", 1)", x.other(0, n, 1), spoken[n - 1]);
        }
        x.put(1);
        x.put(0);
        C.due("other(0, 2, 1) after a visit to the LATE one", x.other(0, 2, 1), 2);
        C.due("other(0, 3, 1) then", x.other(0, 3, 1), 1);
        x.put(1);
        x.put(0);
        C.due("other(0, 3, 1) when the ECHO has heard the LATE one", x.other(0, 3, 1), 3);
        TwoHousesBehind y = Checks.street("house 6 1 2;house 0 2 0;house 0 4 0;way 0 1 1;way 1 2 1;bird 1");
        Checks.row(y, 0, 2, 1, 2, 1, 0, 1, 0, 1, 0, 1);
        C.due("other(0, 6, 1), its first visit to the LATE one", y.other(0, 6, 1), 0);
        C.due("other(0, 8, 1), its second", y.other(0, 8, 1), 0);
        C.due("other(0, 10, 1), its third", y.other(0, 10, 1), 1);
    }

    private static void promise29() {
        TwoHousesBehind x = ring();
        Checks.row(x, 0, 1, 2, 3, 0, 2);
        x.put(3);
        x.put(0);
        C.due("other(0, 4, 1)", x.other(0, 4, 1), 4);
        C.due("other(0, 4, 2)", x.other(0, 4, 2), 0);
        C.due("other(0, 4, 3)", x.other(0, 4, 3), 2);
        C.due("other(0, 1, 2), nothing being BEHIND", x.other(0, 1, 2), 0);
        C.due("other(0, 0, 3)", x.other(0, 0, 3), 0);
        C.due("status(3)", x.status(3), 2);
        C.due("next()", x.next(), 4);
        C.refused(x, "other(0, 4, 0)", () -> x.other(0, 4, 0), -6);
        C.refused(x, "other(0, 4, 4)", () -> x.other(0, 4, 4), -6);
        C.refused(x, "other(0, 6, 4)", () -> x.other(0, 6, 4), -5);
        C.refused(x, "other(0, 5, 1) of no ROUTE", () -> x.other(0, 5, 1), -6);
        refusalsOfTold("other", (y, s, n) -> y.other(s, n, 1), 40);
    }

    private static void dueAim(TwoHousesBehind x, int her, int him, int set, int k, int minutes, int... houses) {
        String call = "aim(" + her + ", " + him + ", " + set + ", " + k + ", ";
        C.due(call + "0)", x.aim(her, him, set, k, 0), minutes);
        C.due(call + "1)", x.aim(her, him, set, k, 1), minutes == NONE ? NONE : houses.length);
        for (int i = 0; i < houses.length; i++) {
            C.due(call + (2 + i) + ")", x.aim(her, him, set, k, 2 + i), houses[i]);
        }
        C.due(call + (2 + houses.length) + ")", x.aim(her, him, set, k, 2 + houses.length), NONE);
        C.due(call + "MOST)", x.aim(her, him, set, k, MOST), NONE);
    }

    private static void promise30() {
        TwoHousesBehind x = ring();
        dueAim(x, 1, 2, 4, 3, 9, 3, 0, 1);
        dueAim(x, 2, 1, 1, 4, 10, 3, 0, 3, 2);
        dueAim(x, 3, 1, 4, 6, 6, 3, 0, 3);
        dueAim(x, 1, 3, 6, 5, 15, 3, 0, 1, 2, 1);
        dueAim(x, 1, 3, 6, 4, NONE);
        dueAim(x, 1, 1, 4, 6, NONE);
        dueAim(x, 1, 1, 0, 6, 0);
        dueAim(x, 1, 2, 4, 2, NONE);
        x.put(3);
        x.put(0);
        dueAim(x, 1, 2, 4, 6, 5, 1);
        dueAim(x, 2, 3, 1, 6, 6, 3, 2);
        dueAim(x, 2, 1, 5, 6, NONE);
        C.due("where()", x.where(), 0);
        promise30Ties();
        promise30Refusals(ring());
    }

    private static void promise30Ties() {
        TwoHousesBehind x = Checks.street("house 0 1 0;house 0 2 0;house 0 4 0;way 0 1 1;way 1 2 1;way 0 2 3;lag 1;bird 0");
        // more visits can take fewer minutes
        dueAim(x, 0, 1, 4, 6, 5, 1, 2, 0);
        // two visits and three, of four minutes
        x.way(0, 2, 2);
        dueAim(x, 0, 1, 4, 6, 4, 2, 0);
        // all that is behind is word 0: on the quicker route 1 hears it, too
        x.shut(3, true);
        x.lag(2);
        x.put(0);
        x.put(0);
        dueAim(x, 2, 0, 1, 6, 2, 1, 2);
        dueAim(x, 2, 1, 1, 6, 3, 2);
    }

    private static void promise30Refusals(TwoHousesBehind x) {
        C.refused(x, "aim(4, 0, 256, 0, -1)", () -> x.aim(4, 0, 256, 0, -1), -11);
        C.refused(x, "aim(0, -1, 0, 1, 0)", () -> x.aim(0, -1, 0, 1, 0), -11);
        C.refused(x, "aim(0, 1, 256, 0, -1)", () -> x.aim(0, 1, 256, 0, -1), -15);
        C.refused(x, "aim(0, 1, 256, 1, 0)", () -> x.aim(0, 1, 256, 1, 0), -16);
        C.refused(x, "aim(0, 1, -1, 1, 0)", () -> x.aim(0, 1, -1, 1, 0), -16);
        C.refused(x, "aim(0, 1, 1, 0, 0)", () -> x.aim(0, 1, 1, 0, 0), -16);
        C.refused(x, "aim(0, 1, 1, 7, 0)", () -> x.aim(0, 1, 1, 7, 0), -16);
        TwoHousesBehind y = Checks.street("house 0 1 0;house 0 2 0;way 0 1 5");
        C.refused(y, "aim(0, 1, 0, 1, 0) from nowhere", () -> y.aim(0, 1, 0, 1, 0), -16);
        C.refused(y, "aim(0, 1, 0, 1, -1) from nowhere", () -> y.aim(0, 1, 0, 1, -1), -15);
    }

    private static void dueRound(TwoHousesBehind x, int of, int set, int k, int minutes, int... houses) {
        String call = "round(" + of + ", " + set + ", " + k + ", ";
        C.due(call + "0)", x.round(of, set, k, 0), minutes);
        C.due(call + "1)", x.round(of, set, k, 1), minutes == NONE ? NONE : houses.length);
        for (int i = 0; i < houses.length; i++) {
            C.due(call + (2 + i) + ")", x.round(of, set, k, 2 + i), houses[i]);
        }
        C.due(call + (2 + houses.length) + ")", x.round(of, set, k, 2 + houses.length), NONE);
    }

    private static void promise31() {
        TwoHousesBehind x = ring();
        dueRound(x, 2, 2, 4, 16, 1, 2, 1, 0);
        dueRound(x, 2, 2, 3, NONE);
        dueRound(x, 10, 4, 6, 18, 3, 0, 3, 0, 1, 0);
        dueRound(x, 10, 4, 5, NONE);
        dueRound(x, 1, 1, 4, 8, 3, 0, 3, 0);
        dueRound(x, 3, 1, 6, NONE);
        dueRound(x, 0, 255, 1, 0);
        dueRound(x, 15, 0, 1, 0);
        C.refused(x, "round(16, 256, 1, -1)", () -> x.round(16, 256, 1, -1), -15);
        C.refused(x, "round(16, 0, 1, 0) of a HOUSE that isn't there", () -> x.round(16, 0, 1, 0), -16);
        C.refused(x, "round(-1, 0, 1, 0)", () -> x.round(-1, 0, 1, 0), -16);
        C.refused(x, "round(1, 256, 1, 0)", () -> x.round(1, 256, 1, 0), -16);
        C.refused(x, "round(1, 1, 0, 0)", () -> x.round(1, 1, 0, 0), -16);
        C.refused(x, "round(1, 1, 7, 0)", () -> x.round(1, 1, 7, 0), -16);
        TwoHousesBehind y = Checks.street("house 0 1 0;house 0 2 0;way 0 1 5");
        C.refused(y, "round(0, 0, 1, 0) from nowhere", () -> y.round(0, 0, 1, 0), -16);
    }

    private static void promise32() {
        TwoHousesBehind x = ring();
        Checks.row(x, 0, 0, 0, 2, 1, 0, 0);
        int[] due = {1, 2, 4, 4, 4};
        for (int n = 0; n < due.length; n++) {
            C.due("fits(0, " + n + ")", x.fits(0, n), due[n]);
        }
        C.due("fits(0, 6)", x.fits(0, 6), 0);
        x.set(0, 2, 258);
        C.due("fits(0, 3) with no set", x.fits(0, 3), 0);
        x.row(1, 3, 3);
        x.set(1, 0, 1L << 32);
        x.set(1, 2, (9L << 32) + 4);
        C.due("fits(1, 3) of longs", x.fits(1, 3), 4);
        x.set(1, 0, 1);
        C.due("fits(1, 3), another first set", x.fits(1, 3), 0);
        x.set(1, 0, 0);
        // two ways between two houses are one step of a route
        x.way(0, 1, 1);
        C.due("fits(1, 3) of longs", x.fits(1, 3), 4);
        refusalsOfTold("fits", TwoHousesBehind::fits, 6);
    }

    private static void promise33() {
        TwoHousesBehind x = ring();
        Checks.row(x, 0, 0, 0, 2, 1, 0, 7, 0);
        C.due("from(0, 0, NONE)", x.from(0, 0, NONE), 1);
        C.due("from(0, 2, NONE)", x.from(0, 2, NONE), 5);
        C.due("from(0, 3, NONE)", x.from(0, 3, NONE), 10);
        int[] first = {1, 0, 1, 0};
        for (int i = 0; i < 4; i++) {
            C.due("from(0, 4, " + i + ")", x.from(0, 4, i), first[i]);
        }
        C.due("from(0, 4, NONE)", x.from(0, 4, NONE), 5);
        C.due("from(0, 6, NONE), no such ROUTE", x.from(0, 6, NONE), 0);
        C.refused(x, "from(0, 6, 0), no such ROUTE", () -> x.from(0, 6, 0), -5);
        C.refused(x, "from(0, 4, 4)", () -> x.from(0, 4, 4), -5);
        C.refused(x, "from(0, 0, 0)", () -> x.from(0, 0, 0), -5);
        C.refused(x, "from(0, 4, -2)", () -> x.from(0, 4, -2), -5);
        C.refused(x, "from(0, 7, 7) above 6", () -> x.from(0, 7, 7), -5);
        C.refused(x, "from(0, 7, 0) above 6", () -> x.from(0, 7, 0), -6);
        x.shut(1, true);
        x.shut(2, true);
        x.set(0, 1, 0);
        C.due("from(0, 2, NONE)", x.from(0, 2, NONE), 1);
        x.shut(3, true);
        C.due("from(0, 2, 0), the one ROUTE", x.from(0, 2, 0), 1);
        C.due("from(0, 2, 1), the one ROUTE", x.from(0, 2, 1), 0);
        refusalsOfTold("from", (y, s, n) -> y.from(s, n, NONE), 6);
    }

    private static void promise34() {
        TwoHousesBehind x = ring();
        long all = 27720;
        C.due("odds(1, 2, 3)", x.odds(1, 2, 3), all * all * all / 4);
        C.due("odds(1, 4, 3)", x.odds(1, 4, 3), all * all * all / 4);
        C.due("odds(1, 6, 4)", x.odds(1, 6, 4), 0);
        C.due("odds(2, 0, 4)", x.odds(2, 0, 4), all * all * all * all);
        C.due("odds(1, 2, 2)", x.odds(1, 2, 2), 0);
        C.due("odds(1, 0, 1)", x.odds(1, 0, 1), all);
        x.way(1, 0, 60);
        C.due("odds(1, 2, 3), two WAYS", x.odds(1, 2, 3), (all / 3) * (all / 3) * (8 * (all / 3) + 2 * (all / 2)));
        x.shut(0, true);
        x.shut(3, true);
        x.shut(4, true);
        C.due("odds(0, 0, 3) without a WAY", x.odds(0, 0, 3), all * all * all);
        C.due("odds(0, 1, 3) without a WAY", x.odds(0, 1, 3), 0);
        x.shut(0, false);
        C.due("odds(1, 2, 3), WAYS shut", x.odds(1, 2, 3), all * all * all / 4 * 3);
        C.refused(x, "odds(4, 256, 0)", () -> x.odds(4, 256, 0), -1);
        C.refused(x, "odds(-1, 0, 1)", () -> x.odds(-1, 0, 1), -1);
        C.refused(x, "odds(0, 256, 1)", () -> x.odds(0, 256, 1), -6);
        C.refused(x, "odds(0, -1, 1)", () -> x.odds(0, -1, 1), -6);
        C.refused(x, "odds(0, 1, 0)", () -> x.odds(0, 1, 0), -6);
        C.refused(x, "odds(0, 1, 5)", () -> x.odds(0, 1, 5), -6);
        TwoHousesBehind y = Checks.street("house 0 1 0;house 0 2 0;way 0 1 5");
        C.refused(y, "odds(0, 0, 1) from nowhere", () -> y.odds(0, 0, 1), -6);
    }

    private static void promise35() {
        TwoHousesBehind x = ring();
        C.due("shuts(1, 2, 3)", x.shuts(1, 2, 3), 1);
        C.due("shuts(1, 6, 3)", x.shuts(1, 6, 3), 3);
        C.due("shuts(1, 6, 2)", x.shuts(1, 6, 2), 0);
        C.due("shuts(1, 0, 4)", x.shuts(1, 0, 4), 0);
        C.due("shuts(1, 2, 1)", x.shuts(1, 2, 1), 0);
        x.way(0, 1, 60);
        C.due("shuts(1, 2, 3), two WAYS", x.shuts(1, 2, 3), 17);
        x.shut(0, true);
        C.due("shuts(1, 2, 3), one of them shut", x.shuts(1, 2, 3), 16);
        C.due("status(2)", x.status(2), 1);
        C.refused(x, "shuts(4, 256, 0)", () -> x.shuts(4, 256, 0), -1);
        C.refused(x, "shuts(-1, 0, 1)", () -> x.shuts(-1, 0, 1), -1);
        C.refused(x, "shuts(0, 256, 1)", () -> x.shuts(0, 256, 1), -6);
        C.refused(x, "shuts(0, -1, 1)", () -> x.shuts(0, -1, 1), -6);
        C.refused(x, "shuts(0, 1, 0)", () -> x.shuts(0, 1, 0), -6);
        C.refused(x, "shuts(0, 1, 5)", () -> x.shuts(0, 1, 5), -6);
        TwoHousesBehind y = Checks.street("house 0 1 0;house 0 2 0");
        for (int way = 0; way < 12; way++) {
            y.way(0, 1, 1);
        }
        C.refused(y, "shuts(0, 0, 1) from nowhere", () -> y.shuts(0, 0, 1), -6);
        y.put(0);
        C.due("shuts(1, 2, 3), all WAYS", y.shuts(1, 2, 3), 4095);
        TwoHousesBehind z = Checks.street("house 0 1 0;house 0 2 0;house 0 4 0;way 0 1 1;way 0 1 1;way 1 2 1;lag 1;bird 0");
        C.due("shuts(2, 2, 2), one WAY rather than two", z.shuts(2, 2, 2), 4);
        z.shut(1, true);
        C.due("shuts(2, 2, 2), the least of two single WAYS", z.shuts(2, 2, 2), 1);
    }

    private static void promise36() {
        TwoHousesBehind x = ring();
        int[] byOne = {0, 0, 0, 6, 6, 6, 6};
        int[] byTwo = {0, 0, 0, 0, 1, 1, 1};
        for (int k = 0; k <= 6; k++) {
            C.due("reach(1, " + k + ")", x.reach(1, k), byOne[k]);
            C.due("reach(2, " + k + ")", x.reach(2, k), byTwo[k]);
        }
        x.put(3);
        x.put(0);
        C.due("reach(1, 1) of what is BEHIND", x.reach(1, 1), 4);
        C.due("reach(1, 0)", x.reach(1, 0), 0);
        C.refused(x, "reach(4, 7)", () -> x.reach(4, 7), -1);
        C.refused(x, "reach(-1, 0)", () -> x.reach(-1, 0), -1);
        C.refused(x, "reach(0, 7)", () -> x.reach(0, 7), -6);
        C.refused(x, "reach(0, -1)", () -> x.reach(0, -1), -6);
        TwoHousesBehind y = Checks.street("house 0 1 0;house 0 2 0;way 0 1 5");
        C.refused(y, "reach(0, 0) from nowhere", () -> y.reach(0, 0), -6);
    }

    private static void promise37() {
        TwoHousesBehind x = ring();
        C.due("first(1, 2)", x.first(1, 2), 3);
        C.due("first(1, 6)", x.first(1, 6), 5);
        C.due("first(2, 1)", x.first(2, 1), 4);
        C.due("first(2, 4)", x.first(2, 4), NONE);
        C.due("first(2, 0)", x.first(2, 0), 0);
        x.lag(3);
        C.due("first(0, 6) of LAG 3", x.first(0, 6), 6);
        x.lag(2);
        C.refused(x, "first(4, 256)", () -> x.first(4, 256), -11);
        C.refused(x, "first(-1, 0)", () -> x.first(-1, 0), -11);
        C.refused(x, "first(0, 256)", () -> x.first(0, 256), -16);
        C.refused(x, "first(0, -1)", () -> x.first(0, -1), -16);
        TwoHousesBehind y = Checks.street("house 0 1 0;house 0 2 0;way 0 1 5");
        C.refused(y, "first(0, 0) from nowhere", () -> y.first(0, 0), -16);
    }

    private static void promise38() {
        TwoHousesBehind x = ring();
        C.due("wander(1)", x.wander(1), 1);
        C.due("status(6)", x.status(6), 1103527590);
        C.due("where()", x.where(), 1);
        C.due("wander(3)", x.wander(3), 3);
        C.due("where()", x.where(), 0);
        C.due("status(4)", x.status(4), 14);
        C.due("status(5)", x.status(5), 4);
        C.due("status(6)", x.status(6), -999580867);
        C.due("houseOf(1, 4)", x.houseOf(1, 4), 1);
        C.due("houseOf(3, 4)", x.houseOf(3, 4), 1);
        C.due("wander(40)", x.wander(40), 40);
        C.due("status(5)", x.status(5), 44);
        C.refused(x, "wander(0)", () -> x.wander(0), -6);
        C.refused(x, "wander(41)", () -> x.wander(41), -6);
        C.refused(x, "wander(-1)", () -> x.wander(-1), -6);
        TwoHousesBehind y = Checks.street("house 0 1 0;house 0 2 0;house 0 4 0;house 0 8 0;way 0 1 5;way 0 2 6;way 0 3 7");
        C.refused(y, "wander(1) from nowhere", () -> y.wander(1), -6);
        y.put(0);
        y.seed(1103527590);
        C.due("wander(2)", y.wander(2), 2);
        C.due("houseOf(1, 4), the upper bits without a sign", y.houseOf(1, 4), 1);
        C.due("status(6), a draw of one WAY is a draw, too", y.status(6), 662824084);
        y.shut(0, true);
        y.shut(1, true);
        y.shut(2, true);
        C.due("wander(5) without a WAY", y.wander(5), 0);
        C.due("status(6)", y.status(6), 662824084);
        y.shut(2, false);
        C.due("wander(1) by the one that is open", y.wander(1), 1);
        C.due("where()", y.where(), 3);
    }

    private static void promise39() {
        TwoHousesBehind x = ring();
        x.put(3);
        x.put(1);
        x.put(1);
        x.put(0);
        C.due("who(4)", x.who(4), 2);
        C.due("who(2)", x.who(2), 1);
        C.due("who(6)", x.who(6), 0);
        C.due("who(0)", x.who(0), 15);
        C.due("who(255)", x.who(255), 0);
        x.put(1);
        C.due("who(6) of one that has heard both", x.who(6), 2);
        C.refused(x, "who(256)", () -> x.who(256), -6);
        C.refused(x, "who(-1)", () -> x.who(-1), -6);
    }

    private static void promise40() {
        TwoHousesBehind x = ring();
        x.put(3);
        x.put(1);
        x.put(1);
        x.put(0);
        x.put(1);
        C.due("forget()", x.forget(), 3);
        C.due("houseOf(1, 3)", x.houseOf(1, 3), 0);
        C.due("houseOf(1, 4)", x.houseOf(1, 4), 0);
        C.due("next()", x.next(), 0);
        C.due("behind(0)", x.behind(0), 0);
        C.due("where()", x.where(), 1);
        C.due("status(5)", x.status(5), 5);
        C.due("houseOf(1, 1)", x.houseOf(1, 1), 2);
        C.due("forget() again", x.forget(), 0);
    }

    private static void promise41() {
        TwoHousesBehind x = new TwoHousesBehind();
        C.due("seed(LEAST)", x.seed(LEAST), 1);
        C.due("seed(-5)", x.seed(-5), LEAST);
        C.due("status(6)", x.status(6), -5);
    }

    private static void dueAct(TwoHousesBehind x, int house, int act, int due, int... bodies) {
        String call = "act(" + house + ", " + act + ", 10)";
        C.due(call, x.act(house, act, 10), due);
        for (int i = 0; i < bodies.length; i++) {
            C.due(call + ", then trace(" + i + ")", x.trace(i), bodies[i]);
        }
        C.due(call + ", then trace(" + bodies.length + ")", x.trace(bodies.length), NONE);
        C.due(call + ", then status(7)", x.status(7), bodies.length);
    }

    private static void promise42() {
        TwoHousesBehind x = kinds();
        dueAct(x, 0, 0, 10, 10);
        dueAct(x, 1, 0, 14, 20, 10);
        dueAct(x, 2, 0, 12, 10);
        dueAct(x, 3, 0, 13, 10);
        dueAct(x, 4, 0, 14, 10);
        dueAct(x, 5, 0, 15, 10);
        dueAct(x, 6, 0, 32, 70, 10);
        dueAct(x, 0, 1, 20, 11, 10);
        dueAct(x, 1, 1, 28, 11, 20, 10);
        dueAct(x, 2, 1, 72, 30, 11, 10);
        dueAct(x, 3, 1, 84, 40, 30, 11, 10);
        dueAct(x, 4, 1, 28, 11, 10);
        dueAct(x, 5, 1, 30, 11, 10);
        dueAct(x, 6, 1, 52, 71, 11, 70, 10);
        dueAct(x, 0, 2, 19, 12, 11, 10, 10);
        dueAct(x, 1, 2, 23, 12, 11, 20, 10, 20, 10);
        dueAct(x, 2, 2, 65, 12, 30, 11, 10, 10);
        dueAct(x, 3, 2, 91, 41, 12, 40, 30, 11, 10, 10);
        dueAct(x, 4, 2, -23, 50, 12, 11, 10, 10);
        dueAct(x, 5, 2, -21, 60, 50, 12, 11, 10, 10);
        dueAct(x, 6, 2, 46, 12, 71, 11, 70, 10, 70, 10);
        dueAct(x, 7, 0, 0);
        dueAct(x, 0, 0, 10, 10);
        dueAct(x, 0, 3, 0);
        dueAct(x, 0, -1, 0);
        dueAct(x, -1, 0, 0);
        C.due("act(6, 0, MOST), wrapping", x.act(6, 0, MOST), (MOST + 6) * 2);
        for (int what = 11; what <= 17; what++) {
            C.due("status(" + what + ")", x.status(what), 0);
        }
    }

    private static void promise43() {
        TwoHousesBehind x = kinds();
        x.act(3, 2, 1);
        C.due("trace(6)", x.trace(6), 10);
        C.due("trace(7)", x.trace(7), NONE);
        C.due("trace(-1)", x.trace(-1), NONE);
        C.due("trace(20)", x.trace(20), NONE);
        C.due("trace(MOST)", x.trace(MOST), NONE);
        x.put(1);
        C.due("trace(0) after another call", x.trace(0), 41);
        x.act(9, 0, 1);
        C.due("trace(0) after no act", x.trace(0), NONE);
        C.due("status(15)", x.status(15), 0);
    }

    private static void promise44() {
        TwoHousesBehind x = new TwoHousesBehind();
        C.due("image() of nothing", x.image(), 0);
        C.due("restore()", x.restore(), 0);
        TwoHousesBehind y = ring();
        C.due("image()", y.image(), 4);
        y.house(0, 0, 0);
        C.due("image()", y.image(), 5);
        y.house(0, 0, 0);
        C.due("restore()", y.restore(), 5);
    }

    private static void promise45() {
        TwoHousesBehind x = ring();
        C.refused(x, "restore() without an IMAGE", x::restore, -6);
        x.put(3);
        x.put(1);
        x.put(1);
        x.go(0);
        x.seed(77);
        x.shut(2, true);
        x.row(5, 2, 2);
        C.due("image()", x.image(), 4);
        x.show(3, 3);
        x.house(5, 6, 7);
        x.show(4, 4);
        x.show(0, 4);
        x.show(7, 4);
        x.way(4, 0, 9);
        x.said(3, 200);
        x.shut(2, false);
        x.wander(3);
        x.lag(1);
        x.set(5, 1, 8);
        x.act(3, 2, 1);
        x.who(-1);
        Checks.text(x, 6, "lag 9");
        x.street(6);
        for (int times = 0; times < 2; times++) {
            C.due("restore()", x.restore(), 4);
            int[] status = {4, 4, 1, 2, 5, 4, 77, 4};
            for (int what = 0; what < 8; what++) {
                C.due("status(" + what + ")", x.status(what), status[what]);
            }
            C.due("houseOf(3, 1)", x.houseOf(3, 1), 4);
            C.due("houseOf(1, 3)", x.houseOf(1, 3), 4);
            C.due("houseOf(1, 4)", x.houseOf(1, 4), 2);
            C.due("wayOf(2, 3)", x.wayOf(2, 3), 1);
            C.due("where()", x.where(), 0);
            C.due("behind(0)", x.behind(0), 1);
            C.due("behind(1)", x.behind(1), 2);
            C.due("holds(3)", x.holds(3), 3);
            C.due("holds(4)", x.holds(4), NONE);
            C.due("holds(0)", x.holds(0), NONE);
            C.due("holds(7)", x.holds(7), NONE);
            C.due("element(5, 1)", x.element(5, 1), 8);
            C.due("status(16)", x.status(16), 3);
            C.due("fault()", x.fault(), 4);
            C.due("trace(0)", x.trace(0), 12);
            x.put(2);
            x.said(3, 9);
            x.seed(5);
        }
        C.due("house() after restore()", x.house(1, 2, 3), 4);
        C.due("houseOf(4, 0)", x.houseOf(4, 0), 1);
        C.due("houseOf(4, 3)", x.houseOf(4, 3), 0);
    }

    private static void promise46() {
        TwoHousesBehind x = ring();
        x.shut(1, true);
        x.shut(2, true);
        x.go(0);
        x.put(0);
        x.act(1, 0, 0);
        x.seed(-9);
        int[] status = {4, 4, 2, 2, 5, 2, -9, 1};
        for (int what = 0; what < 8; what++) {
            C.due("status(" + what + ")", x.status(what), status[what]);
        }
        x.put(9);
        x.between(9, 0);
        x.says(7, 0);
        x.row(0, 0, -1);
        x.aim(0, 1, 0, 1, -1);
        x.behind(5);
        x.first(0, -1);
        x.who(-1);
        x.lag(9);
        x.row(0, 0, 161);
        int[] refused = {2, 0, 1, 1, 2, 3, 1};
        for (int i = 0; i < 7; i++) {
            C.due("status(" + (11 + i) + ")", x.status(11 + i), refused[i]);
        }
        int[] other = {-1, 8, 9, 10, 18, MOST, LEAST};
        for (int what : other) {
            C.due("status(" + what + ")", x.status(what), NONE);
        }
        x.show(1, 0);
        x.set(1, 0, 0);
        C.due("status(12)", x.status(12), 1);
    }
}
