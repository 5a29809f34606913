/** Edges of promises 1 to 8: a new object, shelves. */
public final class ShelvesEdgesTest extends Edges {
    public static void main(String[] arguments) {
        run(ShelvesEdgesTest.class, 1, 8);
    }

    // ---- promise 1: a new object

    static void promise1_noHouses() {
        answered(Edges::bare, x -> x.status(0), 0);
        refused(Edges::bare, x -> x.houseOf(0, 0), -5);
        refused(Edges::bare, x -> x.put(0), -1);
        answered(Edges::bare, x -> x.who(0), 0);
        answered(Edges::bare, x -> x.house(0, 0, 0), 0);
        answered(Edges::bare, x -> x.image(), 0);
    }

    static void promise1_noWays() {
        answered(Edges::bare, x -> x.status(1), 0);
        answered(Edges::bare, x -> x.status(2), 0);
        refused(Edges::bare, x -> x.wayOf(0, 0), -5);
        refused(Edges::bare, x -> x.shut(0, true), -1);
        refused(Edges::bare, x -> x.go(0), -1);
    }

    static void promise1_theBirdIsNowhere() {
        answered(Edges::bare, x -> x.where(), NONE);
        refused(Edges::bare, x -> x.wander(1), -6);
    }

    static void promise1_lagIs2AtFirst() {
        answered(Edges::bare, x -> x.status(3), 2);
        answered(Edges::bare, x -> x.lag(1), 2);
    }

    static void promise1_nothingIsBehindAtFirst() {
        answered(Edges::bare, x -> x.behind(0), 0);
        answered(Edges::bare, x -> x.behind(1), 0);
        refused(Edges::bare, x -> x.behind(2), -5);
        answered(Edges::bare, x -> x.next(), 0);
    }

    static void promise1_seedIs1AtFirst() {
        answered(Edges::bare, x -> x.status(6), 1);
        answered(Edges::bare, x -> x.seed(9), 1);
    }

    static void promise1_shelvesHoldNothingAtFirst() {
        for (int s = 0; s < 8; s++) {
            int shelf = s;
            answered(Edges::bare, x -> x.holds(shelf), NONE);
            answered(Edges::bare, x -> x.element(shelf, 0), 0);
            refused(Edges::bare, x -> x.set(shelf, 0, 1), -3);
        }
    }

    static void promise1_noImageNoFaultNoTrace() {
        refused(Edges::bare, x -> x.restore(), -6);
        answered(Edges::bare, x -> x.fault(), NONE);
        answered(Edges::bare, x -> x.trace(0), NONE);
        answered(Edges::bare, x -> x.status(7), 0);
    }

    static void promise1_nothingHasBeenCounted() {
        for (int what = 11; what <= 17; what++) {
            int sort = what;
            answered(Edges::bare, x -> x.status(sort), 0);
        }
        answered(Edges::bare, x -> x.status(4), 0);
        answered(Edges::bare, x -> x.status(5), 0);
        answered(Edges::bare, x -> x.forget(), 0);
    }

    static void promise1_oneObjectLeavesAnotherAlone() {
        TwoHousesBehind x = bare();
        TwoHousesBehind y = rich();
        due(x.status(0), 0);
        due(x.holds(0), NONE);
        due(y.status(0), 7);
        due(bare().status(6), 1);
    }

    // ---- promise 2: row

    static void promise2_shelves0To7() {
        refused(Edges::rich, x -> x.row(-1, 0, 1), -1);
        answered(Edges::rich, x -> x.row(0, 0, 1), 1);
        answered(Edges::rich, x -> x.row(1, 0, 1), 1);
        answered(Edges::rich, x -> x.row(6, 0, 1), 1);
        answered(Edges::rich, x -> x.row(7, 0, 1), 1);
        refused(Edges::rich, x -> x.row(8, 0, 1), -1);
        refused(Edges::rich, x -> x.row(LEAST, 0, 1), -1);
        refused(Edges::rich, x -> x.row(MOST, 0, 1), -1);
    }

    static void promise2_minus4ASizeBelow0() {
        refused(Edges::rich, x -> x.row(2, 0, -1), -4);
        refused(Edges::rich, x -> x.row(6, 0, LEAST), -4);
        TwoHousesBehind none = answered(Edges::rich, x -> x.row(2, 0, 0), 1);
        due(none.set(2, 0, 1), -5);
        TwoHousesBehind one = answered(Edges::rich, x -> x.row(2, 0, 1), 1);
        due(one.set(2, 0, 1), 1);
        due(one.set(2, 1, 1), -5);
    }

    static void promise2_minus7ASizeAbove160() {
        for (int sort = 0; sort < 4; sort++) {
            int of = sort;
            TwoHousesBehind less = answered(Edges::rich, x -> x.row(7, of, 159), 1);
            due(less.set(7, 158, 1), 1);
            due(less.set(7, 159, 1), -5);
            TwoHousesBehind most = answered(Edges::rich, x -> x.row(7, of, 160), 1);
            due(most.set(7, 159, 1), 1);
            due(most.element(7, 159), 1);
            due(most.set(7, 160, 1), -5);
            refused(Edges::rich, x -> x.row(7, of, 161), -7);
        }
        refused(Edges::rich, x -> x.row(6, 0, 161), -7);
        refused(Edges::rich, x -> x.row(4, 3, MOST), -7);
    }

    static void promise2_minus6ASortBut0To3() {
        refused(Edges::rich, x -> x.row(2, -1, 1), -6);
        refused(Edges::rich, x -> x.row(2, 4, 1), -6);
        refused(Edges::rich, x -> x.row(2, LEAST, 0), -6);
        refused(Edges::rich, x -> x.row(2, MOST, 160), -6);
        for (int sort = 0; sort < 4; sort++) {
            int of = sort;
            due(answered(Edges::rich, x -> x.row(2, of, 1), 1).holds(2), 100 + sort);
        }
    }

    static void promise2_refusalsInTheirOrder() {
        refused(Edges::rich, x -> x.row(8, 4, -1), -1);
        refused(Edges::rich, x -> x.row(-1, 4, 161), -1);
        refused(Edges::rich, x -> x.row(2, 4, -1), -4);
        refused(Edges::rich, x -> x.row(2, -1, -1), -4);
        refused(Edges::rich, x -> x.row(2, 4, 161), -6);
        refused(Edges::rich, x -> x.row(2, -1, 161), -6);
    }

    static void promise2_elementsAre0AtFirst() {
        TwoHousesBehind x = bare();
        for (int sort = 0; sort < 4; sort++) {
            x.row(3, sort, 4);
            for (int i = 0; i < 4; i++) {
                due(x.element(3, i), 0);
                x.set(3, i, -1);
            }
        }
        x.row(3, 3, 160);
        x.set(3, 159, 5);
        x.row(3, 3, 1);
        x.row(3, 3, 160);
        due(x.element(3, 159), 0);
    }

    static void promise2_aNewRowWhereARowOrAHouseWas() {
        due(answered(Edges::rich, x -> x.row(4, 1, 2), 1).holds(4), 101);
        TwoHousesBehind shorter = answered(Edges::rich, x -> x.row(2, 2, 2), 1);
        due(shorter.element(2, 0), 0);
        due(shorter.set(2, 2, 1), -5);
    }

    static void promise2_shelvesNextToItKeepTheirs() {
        TwoHousesBehind x = bare();
        for (int s = 0; s < 3; s++) {
            x.row(s, 3, 160);
            x.set(s, 0, 10 + s);
            x.set(s, 159, 20 + s);
        }
        x.row(1, 0, 160);
        dues(new long[] {x.element(0, 0), x.element(0, 159), x.element(1, 0), x.element(1, 159)}, 10, 20, 0, 0);
        dues(new long[] {x.element(2, 0), x.element(2, 159)}, 12, 22);
    }

    // ---- promise 3: set

    static void promise3_shelves0To7() {
        refused(Edges::rich, x -> x.set(-1, 0, 1), -1);
        answered(Edges::rich, x -> x.set(0, 0, 1), 1);
        refused(Edges::rich, x -> x.set(7, 0, 1), -5);
        refused(Edges::rich, x -> x.set(8, 0, 1), -1);
    }

    static void promise3_minus5AnElementThatIsNotThere() {
        refused(Edges::rich, x -> x.set(0, -1, 1), -5);
        answered(Edges::rich, x -> x.set(0, 0, 1), 1);
        answered(Edges::rich, x -> x.set(0, 1, 1), 1);
        answered(Edges::rich, x -> x.set(0, 3, 1), 1);
        due(answered(Edges::rich, x -> x.set(0, 4, 9), 1).element(0, 4), 9);
        refused(Edges::rich, x -> x.set(0, 5, 1), -5);
        refused(Edges::rich, x -> x.set(0, 6, 1), -5);
        refused(Edges::rich, x -> x.set(0, 160, 1), -5);
        refused(Edges::rich, x -> x.set(1, -160, 1), -5);
        refused(Edges::rich, x -> x.set(0, MOST, 1), -5);
        refused(Edges::rich, x -> x.set(0, LEAST, 1), -5);
        refused(Edges::rich, x -> x.set(7, -1, 1), -5);
    }

    static void promise3_minus2AHouse() {
        refused(Edges::rich, x -> x.set(4, 0, 1), -2);
        refused(Edges::rich, x -> x.set(5, 0, 1), -2);
    }

    static void promise3_minus3Nothing() {
        refused(Edges::rich, x -> x.set(6, 0, 1), -3);
    }

    static void promise3_refusalsInTheirOrder() {
        refused(Edges::rich, x -> x.set(8, -1, 1), -1);
        refused(Edges::rich, x -> x.set(4, -1, 1), -2);
        refused(Edges::rich, x -> x.set(6, -1, 1), -3);
    }

    private static void keeps(int sort, long put, long kept) {
        due(answered(Edges::rich, x -> x.set(sort, 1, put), 1).element(sort, 1), kept);
    }

    static void promise3_aByteKeepsItsLowest8Bits() {
        keeps(0, 127, 127);
        keeps(0, 128, -128);
        keeps(0, 129, -127);
        keeps(0, 255, -1);
        keeps(0, 256, 0);
        keeps(0, 257, 1);
        keeps(0, -128, -128);
        keeps(0, -129, 127);
        keeps(0, Long.MAX_VALUE, -1);
        keeps(0, Long.MIN_VALUE, 0);
    }

    static void promise3_aShortKeepsItsLowest16Bits() {
        keeps(1, 32767, 32767);
        keeps(1, 32768, -32768);
        keeps(1, 65535, -1);
        keeps(1, 65536, 0);
        keeps(1, -32768, -32768);
        keeps(1, -32769, 32767);
        keeps(1, 256, 256);
        keeps(1, Long.MIN_VALUE, 0);
    }

    static void promise3_anIntKeepsItsLowest32Bits() {
        keeps(2, MOST, MOST);
        keeps(2, MOST + 1L, LEAST);
        keeps(2, LEAST, LEAST);
        keeps(2, LEAST - 1L, MOST);
        keeps(2, (1L << 32) - 1, -1);
        keeps(2, 1L << 32, 0);
        keeps(2, (1L << 32) + 1, 1);
        keeps(2, 65536, 65536);
    }

    static void promise3_aLongKeepsAll() {
        keeps(3, Long.MAX_VALUE, Long.MAX_VALUE);
        keeps(3, Long.MIN_VALUE, Long.MIN_VALUE);
        keeps(3, 1L << 32, 1L << 32);
        keeps(3, -1, -1);
    }

    static void promise3_elementsNextToItStay() {
        TwoHousesBehind x = answered(Edges::rich, y -> y.set(2, 3, 50), 1);
        dues(new long[] {x.element(2, 2), x.element(2, 3), x.element(2, 4), x.element(1, 3), x.element(3, 3)}, 1, 50, 1, 0, 9);
    }

    // ---- promise 4: copy

    /** Shelves 0 (1 to 5) and 1 (11 to 13) have ints, 2 shorts, 3 a house, 4 nothing, 5 no ints, 6 and 7 160 longs. */
    private static TwoHousesBehind rows() {
        TwoHousesBehind x = line(2, 2);
        fill(x, 0, 2, 1, 2, 3, 4, 5);
        fill(x, 1, 2, 11, 12, 13);
        fill(x, 2, 1, 1, 2, 3);
        x.show(3, 1);
        x.row(5, 2, 0);
        x.row(6, 3, 160);
        x.row(7, 3, 160);
        x.set(6, 0, Long.MIN_VALUE);
        x.set(6, 159, Long.MAX_VALUE);
        return x;
    }

    private static void copies(Call call, long... row) {
        TwoHousesBehind x = answered(ShelvesEdgesTest::rows, call, 1);
        long[] got = new long[row.length];
        int s = row.length == 5 ? 0 : 1;
        for (int i = 0; i < row.length; i++) {
            got[i] = x.element(s, i);
        }
        dues(got, row);
    }

    static void promise4_shelves0To7() {
        refused(ShelvesEdgesTest::rows, x -> x.copy(-1, 0, 0, 0, 1), -1);
        refused(ShelvesEdgesTest::rows, x -> x.copy(8, 0, 0, 0, 1), -1);
        refused(ShelvesEdgesTest::rows, x -> x.copy(0, -1, 0, 0, 1), -1);
        refused(ShelvesEdgesTest::rows, x -> x.copy(0, 8, 0, 0, 1), -1);
        answered(ShelvesEdgesTest::rows, x -> x.copy(0, 1, 0, 0, 1), 1);
        answered(ShelvesEdgesTest::rows, x -> x.copy(7, 6, 0, 0, 1), 1);
    }

    static void promise4_minus4ASizeBelow0() {
        refused(ShelvesEdgesTest::rows, x -> x.copy(0, 1, 0, 0, -1), -4);
        refused(ShelvesEdgesTest::rows, x -> x.copy(0, 1, 0, 0, LEAST), -4);
        copies(x -> x.copy(0, 1, 0, 0, 0), 11, 12, 13);
        copies(x -> x.copy(0, 1, 0, 0, 1), 1, 12, 13);
    }

    static void promise4_minus5IBelow0OrItsEndNotThere() {
        refused(ShelvesEdgesTest::rows, x -> x.copy(0, 1, -1, 0, 1), -5);
        refused(ShelvesEdgesTest::rows, x -> x.copy(0, 1, -1, 0, 0), -5);
        copies(x -> x.copy(0, 1, 0, 0, 1), 1, 12, 13);
        copies(x -> x.copy(0, 1, 4, 0, 1), 5, 12, 13);
        refused(ShelvesEdgesTest::rows, x -> x.copy(0, 1, 5, 0, 1), -5);
        copies(x -> x.copy(0, 1, 3, 1, 2), 11, 4, 5);
        refused(ShelvesEdgesTest::rows, x -> x.copy(0, 1, 4, 1, 2), -5);
        copies(x -> x.copy(0, 1, 5, 0, 0), 11, 12, 13);
        refused(ShelvesEdgesTest::rows, x -> x.copy(0, 1, 6, 0, 0), -5);
        refused(ShelvesEdgesTest::rows, x -> x.copy(5, 1, 0, 0, 1), -5);
        copies(x -> x.copy(5, 1, 0, 0, 0), 11, 12, 13);
    }

    static void promise4_minus5JBelow0OrItsEndNotThere() {
        refused(ShelvesEdgesTest::rows, x -> x.copy(0, 1, 0, -1, 1), -5);
        refused(ShelvesEdgesTest::rows, x -> x.copy(0, 1, 0, -1, 0), -5);
        copies(x -> x.copy(0, 1, 0, 2, 1), 11, 12, 1);
        refused(ShelvesEdgesTest::rows, x -> x.copy(0, 1, 0, 3, 1), -5);
        copies(x -> x.copy(0, 1, 0, 1, 2), 11, 1, 2);
        refused(ShelvesEdgesTest::rows, x -> x.copy(0, 1, 0, 2, 2), -5);
        copies(x -> x.copy(0, 1, 0, 0, 3), 1, 2, 3);
        refused(ShelvesEdgesTest::rows, x -> x.copy(0, 1, 0, 0, 4), -5);
        copies(x -> x.copy(0, 1, 0, 3, 0), 11, 12, 13);
        refused(ShelvesEdgesTest::rows, x -> x.copy(0, 1, 0, 4, 0), -5);
        refused(ShelvesEdgesTest::rows, x -> x.copy(0, 5, 0, 0, 1), -5);
        copies(x -> x.copy(1, 5, 0, 0, 0), 11, 12, 13);
    }

    static void promise4_minus5AlsoWhereAnEndWouldWrapAround() {
        refused(ShelvesEdgesTest::rows, x -> x.copy(0, 1, 1, 0, MOST), -5);
        refused(ShelvesEdgesTest::rows, x -> x.copy(0, 1, 0, 1, MOST), -5);
        refused(ShelvesEdgesTest::rows, x -> x.copy(0, 1, MOST, 0, 1), -5);
        refused(ShelvesEdgesTest::rows, x -> x.copy(0, 1, 0, MOST, 1), -5);
        refused(ShelvesEdgesTest::rows, x -> x.copy(6, 7, MOST, MOST, MOST), -5);
        refused(ShelvesEdgesTest::rows, x -> x.copy(0, 1, LEAST, LEAST, 1), -5);
    }

    static void promise4_allOf160() {
        TwoHousesBehind x = answered(ShelvesEdgesTest::rows, y -> y.copy(6, 7, 0, 0, 160), 1);
        dues(new long[] {x.element(7, 0), x.element(7, 1), x.element(7, 159)}, Long.MIN_VALUE, 0, Long.MAX_VALUE);
        refused(ShelvesEdgesTest::rows, y -> y.copy(6, 7, 0, 0, 161), -5);
        refused(ShelvesEdgesTest::rows, y -> y.copy(6, 7, 1, 0, 160), -5);
        refused(ShelvesEdgesTest::rows, y -> y.copy(6, 7, 0, 1, 160), -5);
        due(answered(ShelvesEdgesTest::rows, y -> y.copy(6, 7, 159, 0, 1), 1).element(7, 0), Long.MAX_VALUE);
        Maker last = () -> {
            TwoHousesBehind y = rows();
            y.set(7, 0, 5);
            y.set(7, 159, 6);
            return y;
        };
        TwoHousesBehind z = answered(last, y -> y.copy(7, 6, 0, 0, 160), 1);
        dues(new long[] {z.element(6, 0), z.element(6, 159)}, 5, 6);
        due(answered(last, y -> y.copy(7, 6, 159, 0, 1), 1).element(6, 0), 6);
        due(answered(last, y -> y.copy(7, 7, 0, 159, 1), 1).element(7, 159), 5);
        due(answered(ShelvesEdgesTest::rows, y -> y.copy(6, 7, 0, 159, 1), 1).element(7, 159), Long.MIN_VALUE);
    }

    static void promise4_asTheyWereAheadInOneRow() {
        copies(x -> x.copy(0, 0, 0, 1, 4), 1, 1, 2, 3, 4);
        copies(x -> x.copy(0, 0, 1, 0, 4), 2, 3, 4, 5, 5);
        copies(x -> x.copy(0, 0, 0, 2, 3), 1, 2, 1, 2, 3);
        copies(x -> x.copy(0, 0, 2, 0, 3), 3, 4, 5, 4, 5);
        copies(x -> x.copy(0, 0, 0, 0, 5), 1, 2, 3, 4, 5);
        refused(ShelvesEdgesTest::rows, x -> x.copy(0, 0, 0, 1, 5), -5);
    }

    static void promise4_theRowTakenFromStays() {
        TwoHousesBehind x = answered(ShelvesEdgesTest::rows, y -> y.copy(0, 1, 0, 0, 3), 1);
        dues(new long[] {x.element(0, 0), x.element(0, 1), x.element(0, 2), x.element(0, 3)}, 1, 2, 3, 4);
    }

    static void promise4_minus2AHouseOrTwoSorts() {
        refused(ShelvesEdgesTest::rows, x -> x.copy(3, 0, 0, 0, 0), -2);
        refused(ShelvesEdgesTest::rows, x -> x.copy(0, 3, 0, 0, 0), -2);
        refused(ShelvesEdgesTest::rows, x -> x.copy(3, 3, 0, 0, 0), -2);
        refused(ShelvesEdgesTest::rows, x -> x.copy(0, 2, 0, 0, 0), -2);
        refused(ShelvesEdgesTest::rows, x -> x.copy(2, 0, 0, 0, 0), -2);
        refused(ShelvesEdgesTest::rows, x -> x.copy(6, 5, 0, 0, 0), -2);
    }

    static void promise4_minus3EitherHoldsNothing() {
        refused(ShelvesEdgesTest::rows, x -> x.copy(4, 0, 0, 0, 0), -3);
        refused(ShelvesEdgesTest::rows, x -> x.copy(0, 4, 0, 0, 0), -3);
        refused(ShelvesEdgesTest::rows, x -> x.copy(4, 4, 0, 0, 0), -3);
    }

    static void promise4_refusalsInTheirOrder() {
        refused(ShelvesEdgesTest::rows, x -> x.copy(8, 3, -1, -1, -1), -1);
        refused(ShelvesEdgesTest::rows, x -> x.copy(3, 8, -1, -1, -1), -1);
        refused(ShelvesEdgesTest::rows, x -> x.copy(4, 8, -1, -1, -1), -1);
        refused(ShelvesEdgesTest::rows, x -> x.copy(3, 4, -1, -1, -1), -2);
        refused(ShelvesEdgesTest::rows, x -> x.copy(4, 3, -1, -1, -1), -2);
        refused(ShelvesEdgesTest::rows, x -> x.copy(0, 2, -1, -1, -1), -2);
        refused(ShelvesEdgesTest::rows, x -> x.copy(0, 4, -1, -1, -1), -3);
        refused(ShelvesEdgesTest::rows, x -> x.copy(4, 0, -1, -1, -1), -3);
        refused(ShelvesEdgesTest::rows, x -> x.copy(0, 1, -1, -1, -1), -4);
        refused(ShelvesEdgesTest::rows, x -> x.copy(0, 1, 9, 9, -1), -4);
    }

    // ---- promise 5: element

    static void promise5_0IfThereIsNone() {
        idle(Edges::rich, x -> x.element(0, -1), 0);
        idle(Edges::rich, x -> x.element(0, 0), 1);
        idle(Edges::rich, x -> x.element(0, 4), 6);
        idle(Edges::rich, x -> x.element(0, 5), 0);
        idle(Edges::rich, x -> x.element(0, 160), 0);
        idle(Edges::rich, x -> x.element(1, -160), 0);
        idle(Edges::rich, x -> x.element(2, -156), 0);
        idle(Edges::rich, x -> x.element(0, MOST), 0);
        idle(Edges::rich, x -> x.element(0, LEAST), 0);
        idle(Edges::rich, x -> x.element(7, 0), 0);
    }

    static void promise5_nothingIsRefused() {
        idle(Edges::rich, x -> x.element(-1, 0), 0);
        idle(Edges::rich, x -> x.element(-1, 160), 0);
        idle(Edges::rich, x -> x.element(8, 0), 0);
        idle(Edges::rich, x -> x.element(LEAST, 0), 0);
        idle(Edges::rich, x -> x.element(MOST, 0), 0);
        idle(Edges::rich, x -> x.element(4, 0), 0);
        idle(Edges::rich, x -> x.element(5, 0), 0);
        idle(Edges::rich, x -> x.element(6, 0), 0);
    }

    static void promise5_noneIsLeftOfARowThatIsGone() {
        TwoHousesBehind x = bare();
        x.house(0, 0, 0);
        fill(x, 0, 2, 7, 8, 9);
        fill(x, 1, 2, 7, 8, 9);
        x.show(0, 0);
        due(x.element(0, 1), 0);
        x.show(1, NONE);
        due(x.element(1, 1), 0);
        x.row(1, 2, 1);
        due(x.element(1, 1), 0);
    }

    // ---- promise 6: show

    static void promise6_shelves0To7() {
        refused(Edges::rich, x -> x.show(-1, 0), -1);
        due(answered(Edges::rich, x -> x.show(0, 0), 1).holds(0), 0);
        due(answered(Edges::rich, x -> x.show(7, 0), 1).holds(7), 0);
        refused(Edges::rich, x -> x.show(8, 0), -1);
        refused(Edges::rich, x -> x.show(-1, NONE), -1);
        refused(Edges::rich, x -> x.show(8, NONE), -1);
    }

    static void promise6_minus1NoSuchHouse() {
        refused(Edges::rich, x -> x.show(0, -2), -1);
        due(answered(Edges::rich, x -> x.show(0, NONE), 0).holds(0), NONE);
        due(answered(Edges::rich, x -> x.show(0, 0), 1).holds(0), 0);
        due(answered(Edges::rich, x -> x.show(0, 6), 1).holds(0), 6);
        refused(Edges::rich, x -> x.show(0, 7), -1);
        refused(Edges::rich, x -> x.show(0, LEAST), -1);
        refused(Edges::rich, x -> x.show(0, MOST), -1);
        refused(Edges::bare, x -> x.show(0, 0), -1);
        answered(Edges::bare, x -> x.show(0, NONE), 0);
        due(answered(Edges::full, x -> x.show(0, 7), 1).holds(0), 7);
        refused(Edges::full, x -> x.show(0, 8), -1);
    }

    static void promise6_nothingWhereARowAHouseOrNothingWas() {
        due(answered(Edges::rich, x -> x.show(3, NONE), 0).holds(3), NONE);
        due(answered(Edges::rich, x -> x.show(4, NONE), 0).holds(4), NONE);
        idle(Edges::rich, x -> x.show(6, NONE), 0);
        idle(Edges::rich, x -> x.show(4, 2), 1);
    }

    // ---- promise 7: holds

    static void promise7_noneForNothingOrNoSuchShelf() {
        idle(Edges::rich, x -> x.holds(-1), NONE);
        idle(Edges::rich, x -> x.holds(6), NONE);
        idle(Edges::rich, x -> x.holds(8), NONE);
        idle(Edges::rich, x -> x.holds(LEAST), NONE);
        idle(Edges::rich, x -> x.holds(MOST), NONE);
    }

    static void promise7_aHousesNumber() {
        answered(Edges::rich, x -> x.show(7, 0), 1);
        due(answered(Edges::rich, x -> x.show(7, 0), 1).holds(7), 0);
        idle(Edges::rich, x -> x.holds(4), 2);
        idle(Edges::rich, x -> x.holds(5), 6);
        due(answered(Edges::full, x -> x.show(0, 7), 1).holds(0), 7);
    }

    static void promise7_100AndTheSort() {
        idle(Edges::rich, x -> x.holds(0), 100);
        idle(Edges::rich, x -> x.holds(1), 101);
        idle(Edges::rich, x -> x.holds(2), 102);
        idle(Edges::rich, x -> x.holds(3), 103);
        idle(Edges::rich, x -> x.holds(7), 102);
    }

    // ---- promise 8: says

    /** House n is of kind n, says word n, and all but LATE have a 3; shelf n shows house n, and 7 has nothing. */
    private static TwoHousesBehind shown() {
        TwoHousesBehind x = new TwoHousesBehind();
        for (int kind = 0; kind < 7; kind++) {
            x.house(kind, 1 << kind | 3, kind == 6 ? 2 : 3);
            x.show(kind, kind);
        }
        x.put(2);
        x.put(3);
        x.put(3);
        x.put(2);
        return x;
    }

    static void promise8_shelves0To7() {
        refused(ShelvesEdgesTest::shown, x -> x.says(-1, 0), -1);
        answered(ShelvesEdgesTest::shown, x -> x.says(0, 0), 3);
        refused(ShelvesEdgesTest::shown, x -> x.says(7, 0), -3);
        refused(ShelvesEdgesTest::shown, x -> x.says(8, 0), -1);
    }

    static void promise8_minus1NoSuchKind() {
        refused(ShelvesEdgesTest::shown, x -> x.says(0, -1), -1);
        refused(ShelvesEdgesTest::shown, x -> x.says(6, 7), -1);
        refused(ShelvesEdgesTest::shown, x -> x.says(6, LEAST), -1);
        refused(ShelvesEdgesTest::shown, x -> x.says(6, MOST), -1);
        answered(ShelvesEdgesTest::shown, x -> x.says(6, 6), 2);
        answered(ShelvesEdgesTest::shown, x -> x.says(6, 0), 0);
    }

    static void promise8_minus2AHouseNotOfTheKindNorUnderIt() {
        int[][] of = {{0}, {0, 1}, {0, 2}, {0, 2, 3}, {0, 4}, {0, 4, 5}, {0, 6}};
        for (int house = 0; house < 7; house++) {
            for (int kind = 0; kind < 7; kind++) {
                boolean is = false;
                for (int one : of[house]) {
                    is |= one == kind;
                }
                int s = house;
                int wanted = kind;
                if (!is) {
                    refused(ShelvesEdgesTest::shown, x -> x.says(s, wanted), -2);
                } else {
                    holds("house " + s + " is a kind " + wanted, shown().says(s, wanted) >= 0);
                }
            }
        }
    }

    static void promise8_minus2ARow() {
        refused(Edges::rich, x -> x.says(0, 0), -2);
        refused(Edges::rich, x -> x.says(7, 6), -2);
    }

    static void promise8_minus3Nothing() {
        refused(Edges::rich, x -> x.says(6, 0), -3);
        refused(Edges::rich, x -> x.says(6, 6), -3);
    }

    static void promise8_refusalsInTheirOrder() {
        refused(Edges::rich, x -> x.says(0, 7), -1);
        refused(Edges::rich, x -> x.says(6, -1), -1);
        refused(Edges::rich, x -> x.says(8, 7), -1);
    }

    static void promise8_aHouseAsIfWords0And1WereSpokenNow() {
        // SHY and TWIST say without words 0 and 1, a GOSSIP says them too, a LATE one nothing yet
        int[] due = {3, 0, 7, 11, 16, 64, 0};
        for (int s = 0; s < 7; s++) {
            int shelf = s;
            // what 2 and 3 know by now they say, too: 3 has heard 2 (words 0, 1, 2), 2 has heard 3 (words 0, 1, 3)
            int known = s == 2 ? 11 : s == 3 ? 7 : 0;
            idle(ShelvesEdgesTest::shown, x -> x.says(shelf, 0), due[s] | known);
        }
    }

    static void promise8_justWords0And1() {
        Maker gossips = () -> {
            TwoHousesBehind x = bare();
            x.house(3, 128, 0);
            x.house(4, 255, 0);
            x.house(2, 128, 0);
            for (int s = 0; s < 3; s++) {
                x.show(s, s);
            }
            return x;
        };
        idle(gossips, x -> x.says(0, 0), 131);
        idle(gossips, x -> x.says(1, 0), 255);
        idle(gossips, x -> x.says(2, 0), 128);
    }

    static void promise8_aQuietOneItsSaid() {
        idle(ShelvesEdgesTest::shown, x -> x.says(1, 1), 3);
    }

    static void promise8_anEchoOrAGossipWhatItKnows() {
        idle(ShelvesEdgesTest::shown, x -> x.says(2, 2), 11);
        idle(ShelvesEdgesTest::shown, x -> x.says(3, 2), 7);
        idle(ShelvesEdgesTest::shown, x -> x.says(3, 3), 7);
        due(answered(ShelvesEdgesTest::shown, x -> x.forget(), 6).says(2, 2), 0);
    }

    static void promise8_aShyOneOrATwistItsA() {
        idle(ShelvesEdgesTest::shown, x -> x.says(4, 4), 3);
        idle(ShelvesEdgesTest::shown, x -> x.says(5, 4), 3);
        idle(ShelvesEdgesTest::shown, x -> x.says(5, 5), 3);
    }

    private static TwoHousesBehind late(int a, int visits) {
        TwoHousesBehind x = new TwoHousesBehind();
        x.house(6, 9, a);
        x.show(0, 0);
        for (int i = 0; i < visits; i++) {
            x.put(0);
        }
        return x;
    }

    static void promise8_aLateOneHowManyVisitsMore() {
        int[][] due = {{0, 0, 0}, {0, 1, 0}, {1, 0, 1}, {1, 1, 0}, {1, 2, 0}, {2, 0, 2}, {2, 1, 1}, {2, 2, 0}, {2, 3, 0},
            {255, 0, 255}, {255, 254, 1}, {255, 255, 0}, {255, 256, 0}};
        for (int[] one : due) {
            idle(() -> late(one[0], one[1]), x -> x.says(0, 6), one[2]);
            // that many visits more, and it answers with what is said there
            due(late(one[0], one[1]).says(0, 0), one[2] > 0 ? 0 : 9);
        }
    }
}
