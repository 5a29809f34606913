/** Edges of promises 38 to 46: draws, memory, acts, images, counts. */
public final class RestEdgesTest extends Edges {
    public static void main(String[] arguments) {
        run(RestEdgesTest.class, 38, 46);
    }

    // ---- promise 38: wander

    /** House 0 amid seven others, by way n less 1 to house n. */
    private static TwoHousesBehind star() {
        TwoHousesBehind x = bare();
        for (int house = 0; house < 8; house++) {
            x.house(0, 1 << house, 0);
        }
        for (int house = 1; house < 8; house++) {
            x.way(0, house, house);
        }
        x.put(0);
        return x;
    }

    static void promise38_n1To40() {
        refused(RestEdgesTest::star, x -> x.wander(LEAST), -6);
        refused(RestEdgesTest::star, x -> x.wander(-1), -6);
        refused(RestEdgesTest::star, x -> x.wander(0), -6);
        due(answered(RestEdgesTest::star, x -> x.wander(1), 1).status(5), 2);
        due(answered(RestEdgesTest::star, x -> x.wander(2), 2).status(5), 3);
        due(answered(RestEdgesTest::star, x -> x.wander(39), 39).status(5), 40);
        due(answered(RestEdgesTest::star, x -> x.wander(40), 40).status(5), 41);
        refused(RestEdgesTest::star, x -> x.wander(41), -6);
        refused(RestEdgesTest::star, x -> x.wander(MOST), -6);
    }

    static void promise38_minus6TheBirdIsNowhere() {
        refused(Edges::nowhere, x -> x.wander(1), -6);
        refused(Edges::nowhere, x -> x.wander(41), -6);
        refused(Edges::bare, x -> x.wander(40), -6);
    }

    static void promise38_asLongAsThereIsAWay() {
        Maker alone = () -> {
            TwoHousesBehind x = line(2, 2);
            x.shut(0, true);
            return x;
        };
        idle(alone, x -> x.wander(1), 0);
        idle(alone, x -> x.wander(40), 0);
        idle(() -> line(1, 2), x -> x.wander(40), 0);
    }

    private static int seedAfter(int seed) {
        return (int) ((seed * 1103515245L + 12345L) & 0xffffffffL);
    }

    static void promise38_aDrawByTheUpper16BitsWithoutASign() {
        int[] seeds = {0, 1, -1, 2, 77, 65535, 65536, MOST, LEAST, LEAST + 1, 1103527590, -999580867, 12345, -12345};
        for (int seed : seeds) {
            int next = seedAfter(seed);
            int drawn = (int) (((next & 0xffffffffL) / 65536) % 7);
            TwoHousesBehind x = star();
            x.seed(seed);
            due(x.wander(1), 1);
            dues(new long[] {x.where(), x.status(6), x.status(4)}, drawn + 1, next, drawn + 1);
            // by the ways that are open alone
            TwoHousesBehind y = star();
            y.seed(seed);
            y.shut(0, true);
            y.shut(3, true);
            int ofFive = (int) (((next & 0xffffffffL) / 65536) % 5);
            due(y.wander(1), 1);
            due(y.where(), new int[] {2, 3, 5, 6, 7}[ofFive]);
        }
    }

    static void promise38_aDrawOfOneWayAndOfTwelve() {
        TwoHousesBehind x = line(2, 2);
        x.seed(5);
        due(x.wander(1), 1);
        dues(new long[] {x.where(), x.status(6)}, 1, seedAfter(5));
        for (int seed = 0; seed < 40; seed++) {
            TwoHousesBehind y = line(2, 2);
            for (int way = 1; way < 12; way++) {
                y.way(1, 0, way + 1);
            }
            y.seed(seed);
            y.wander(1);
            due(y.status(4), ((seedAfter(seed) & 0xffffffffL) / 65536) % 12 + 1);
        }
    }

    static void promise38_visitsAsByGo() {
        TwoHousesBehind x = star();
        TwoHousesBehind y = star();
        x.seed(9);
        int seed = 9;
        due(x.wander(40), 40);
        for (int i = 0; i < 40; i++) {
            seed = seedAfter(seed);
            int drawn = (int) (((seed & 0xffffffffL) / 65536) % 7);
            y.go(y.where() == 0 ? drawn : y.where() - 1);
        }
        due(x.status(6), seed);
        dues(new long[] {x.where(), x.status(4), x.status(5), x.next(), x.behind(0)}, y.where(), y.status(4), y.status(5),
            y.next(), y.behind(0));
        for (int house = 0; house < 8; house++) {
            dues(new long[] {x.houseOf(house, 3), x.houseOf(house, 4)}, y.houseOf(house, 3), y.houseOf(house, 4));
        }
    }

    // ---- promise 39: who

    static void promise39_minus6ASetBut0To255() {
        refused(Edges::rich, x -> x.who(LEAST), -6);
        refused(Edges::rich, x -> x.who(-1), -6);
        idle(Edges::rich, x -> x.who(0), 127);
        idle(Edges::rich, x -> x.who(1), 1);
        idle(Edges::rich, x -> x.who(254), 0);
        idle(Edges::rich, x -> x.who(255), 0);
        refused(Edges::rich, x -> x.who(256), -6);
        refused(Edges::rich, x -> x.who(MOST), -6);
    }

    static void promise39_allOfASet() {
        idle(Edges::rich, x -> x.who(68), 4);
        idle(Edges::rich, x -> x.who(64), 4);
        idle(Edges::rich, x -> x.who(4), 4);
        idle(Edges::rich, x -> x.who(69), 0);
        idle(Edges::full, x -> x.who(0), 255);
        idle(Edges::bare, x -> x.who(0), 0);
        idle(Edges::bare, x -> x.who(255), 0);
        TwoHousesBehind all = bare();
        for (int house = 0; house < 8; house++) {
            all.house(0, 255, 0);
        }
        all.lag(1);
        all.put(0);
        for (int house = 0; house < 8; house++) {
            due(all.who(255), (1 << house) - 1);
            all.put(house);
        }
        due(all.who(255), 255);
    }

    // ---- promise 40: forget

    static void promise40_howManyWordsAllKnewTogether() {
        // the same word known by two counts twice
        TwoHousesBehind x = bare();
        for (int house = 0; house < 8; house++) {
            x.house(0, 255, 0);
        }
        x.lag(1);
        due(x.forget(), 0);
        x.put(0);
        for (int house = 0; house < 8; house++) {
            x.put(house);
        }
        due(x.forget(), 64);
        due(x.forget(), 0);
        answered(Edges::rich, y -> y.forget(), 3);
        idle(Edges::bare, y -> y.forget(), 0);
    }

    static void promise40_visitsAre0AndNothingIsBehindButVisitsInAllStay() {
        TwoHousesBehind x = answered(Edges::rich, y -> y.forget(), 3);
        for (int house = 0; house < 7; house++) {
            dues(new long[] {x.houseOf(house, 0), x.houseOf(house, 1), x.houseOf(house, 3), x.houseOf(house, 4)},
                house, 1 << house, 0, 0);
        }
        dues(new long[] {x.behind(0), x.behind(1), x.behind(2), x.next()}, 0, 0, 0, 0);
        dues(new long[] {x.where(), x.status(3), x.status(4), x.status(5), x.status(6)}, 2, 3, 23, 7, 77);
        // the IMAGE stays: there house 5 has been visited
        due(x.restore(), 6);
        due(x.houseOf(5, 4), 1);
    }

    // ---- promise 41: seed

    static void promise41_nothingIsRefused() {
        int[] seeds = {LEAST, LEAST + 1, -1, 0, 1, MOST - 1, MOST};
        for (int v : seeds) {
            TwoHousesBehind x = answered(Edges::rich, y -> y.seed(v), 77);
            due(x.status(6), v);
            due(x.seed(3), v);
        }
        idle(Edges::rich, x -> x.seed(77), 77);
    }

    // ---- promise 42: act

    private static long ran(TwoHousesBehind x) {
        return x.status(7) * 100L + x.trace(0);
    }

    static void promise42_0AndNoTraceIfThereIsNoSuchHouse() {
        int[] none = {-1, 7, 8, LEAST, MOST};
        for (int house : none) {
            TwoHousesBehind x = answered(Edges::rich, y -> y.act(house, 0, 5), 0);
            dues(new long[] {x.status(7), x.trace(0)}, 0, NONE);
        }
        due(ran(answered(Edges::rich, x -> x.act(0, 0, 5), 5)), 110);
        due(ran(answered(Edges::rich, x -> x.act(6, 0, 5), 22)), 270);
        due(ran(answered(Edges::full, x -> x.act(7, 0, 5), 12)), 110);
        idle(Edges::full, x -> x.act(8, 0, 5), 0);
        idle(Edges::bare, x -> x.act(0, 0, 5), 0);
    }

    static void promise42_0AndNoTraceIfThereIsNoSuchAct() {
        int[] none = {-1, 3, LEAST, MOST};
        for (int act : none) {
            TwoHousesBehind x = answered(Edges::rich, y -> y.act(3, act, 5), 0);
            dues(new long[] {x.status(7), x.trace(0)}, 0, NONE);
            idle(Edges::full, y -> y.act(0, act, 5), 0);
        }
        due(ran(answered(Edges::rich, x -> x.act(0, 0, 5), 5)), 110);
        due(ran(answered(Edges::rich, x -> x.act(0, 2, 5), 8)), 412);
    }

    /** The answer by the document's bodies, put together by hand. */
    private static int actOf(int kind, int m, int k, int act, int x) {
        int late = kind == 6 ? 2 : 1;
        int quiet = kind == 1 ? k : 0;
        if (act == 0) {
            return (x + m) * late + quiet;
        }
        int hushed;
        switch (kind) {
            case 2: hushed = (x + m) * 2 * 3; break;
            case 3: hushed = (x + 1 + m) * 2 * 3; break;
            case 6: hushed = (x - k + m) * 2 * 2; break;
            default: hushed = (x + m + quiet) * 2; break;
        }
        if (act == 1) {
            return hushed;
        }
        int opened = hushed ^ ((x - k + m) * late + quiet);
        switch (kind) {
            case 3: return opened - m;
            case 4: return -opened;
            case 5: return -opened ^ 5;
            default: return opened;
        }
    }

    static void promise42_xWraps() {
        int[] some = {LEAST, LEAST + 1, -1, 0, 1, 5, MOST / 2, MOST / 2 + 1, MOST - 1, MOST};
        for (int kind = 0; kind < 7; kind++) {
            for (int a = 0; a <= 255; a += 85) {
                TwoHousesBehind x = line(7);
                x.house(kind, 0, a);
                for (int act = 0; act < 3; act++) {
                    for (int of : some) {
                        due(x.act(7, act, of), actOf(kind, 7, a, act, of));
                    }
                }
            }
            TwoHousesBehind first = bare();
            first.house(kind, 0, 255);
            for (int act = 0; act < 3; act++) {
                due(first.act(0, act, LEAST), actOf(kind, 0, 255, act, LEAST));
                due(first.act(0, act, MOST), actOf(kind, 0, 255, act, MOST));
            }
        }
    }

    static void promise42_allElseStays() {
        TwoHousesBehind x = rich();
        x.act(3, 2, 9);
        due(x.act(3, 2, 9), actOf(3, 3, 3, 2, 9));
        // rich() ends with the same TRACE
        idle(Edges::rich, y -> y.act(3, 2, 9), actOf(3, 3, 3, 2, 9));
        idle(Edges::rich, y -> y.act(3, 2, -9), actOf(3, 3, 3, 2, -9));
    }

    // ---- promise 43: trace

    static void promise43_noneBut0ToTheLastBody() {
        // the act of rich(): of a GOSSIP
        int[] bodies = {41, 12, 40, 30, 11, 10, 10};
        idle(Edges::rich, x -> x.trace(-1), NONE);
        for (int i = 0; i < bodies.length; i++) {
            int place = i;
            idle(Edges::rich, x -> x.trace(place), bodies[i]);
        }
        idle(Edges::rich, x -> x.trace(7), NONE);
        idle(Edges::rich, x -> x.trace(8), NONE);
        for (int i : new int[] {19, 20, 21, MOST, LEAST}) {
            idle(Edges::rich, x -> x.trace(i), NONE);
        }
        idle(Edges::bare, x -> x.trace(0), NONE);
    }

    static void promise43_inTheOrderInWhichTheyBegan() {
        // by kinds (houses of line() are of the first kind) the bodies of calls, hushes, opens
        int[][][] bodies = {
            {{10}, {11, 10}, {12, 11, 10, 10}},
            {{20, 10}, {11, 20, 10}, {12, 11, 20, 10, 20, 10}},
            {{10}, {30, 11, 10}, {12, 30, 11, 10, 10}},
            {{10}, {40, 30, 11, 10}, {41, 12, 40, 30, 11, 10, 10}},
            {{10}, {11, 10}, {50, 12, 11, 10, 10}},
            {{10}, {11, 10}, {60, 50, 12, 11, 10, 10}},
            {{70, 10}, {71, 11, 70, 10}, {12, 71, 11, 70, 10, 70, 10}}};
        for (int kind = 0; kind < 7; kind++) {
            for (int act = 0; act < 3; act++) {
                TwoHousesBehind x = bare();
                x.house(kind, 0, 9);
                x.act(0, act, 3);
                int[] due = bodies[kind][act];
                due(x.status(7), due.length);
                for (int i = 0; i < due.length; i++) {
                    due(x.trace(i), due[i]);
                }
                due(x.trace(due.length), NONE);
                due(x.trace(due.length - 1), due[due.length - 1]);
            }
        }
    }

    static void promise43_ofTheLatestAct() {
        TwoHousesBehind x = rich();
        x.act(0, 0, 1);
        dues(new long[] {x.trace(0), x.trace(1), x.status(7)}, 10, NONE, 1);
        x.act(9, 0, 1);
        dues(new long[] {x.trace(0), x.status(7)}, NONE, 0);
        x.act(1, 0, 1);
        dues(new long[] {x.trace(0), x.trace(1), x.trace(2), x.status(7)}, 20, 10, NONE, 2);
        x.put(0);
        x.restore();
        x.forget();
        dues(new long[] {x.trace(0), x.trace(1), x.trace(2), x.status(7)}, 20, 10, NONE, 2);
    }

    // ---- promise 44: image

    static void promise44_howManyHouses() {
        answered(Edges::bare, x -> x.image(), 0);
        answered(() -> line(1), x -> x.image(), 1);
        answered(Edges::rich, x -> x.image(), 7);
        answered(Edges::full, x -> x.image(), 8);
    }

    static void promise44_anImageOfNothingIsOneToo() {
        TwoHousesBehind x = bare();
        x.image();
        x.house(0, 1, 0);
        x.put(0);
        x.show(0, 0);
        x.seed(8);
        x.lag(3);
        due(x.restore(), 0);
        dues(new long[] {x.status(0), x.where(), x.holds(0), x.status(5), x.status(6), x.status(3)}, 0, NONE, NONE, 0, 1, 2);
        due(x.status(16), 0);
    }

    static void promise44_theLatestCounts() {
        TwoHousesBehind x = rich();
        x.image();
        x.seed(1);
        x.house(0, 0, 0);
        due(x.restore(), 7);
        due(x.status(6), 77);
        x.seed(2);
        x.image();
        x.seed(3);
        due(x.restore(), 7);
        due(x.status(6), 2);
    }

    static void promise44_itIsTakenOnceAndStaysThen() {
        TwoHousesBehind x = rich();
        x.image();
        x.said(0, 9);
        x.shut(0, true);
        x.put(1);
        x.forget();
        for (int times = 0; times < 3; times++) {
            due(x.restore(), 7);
            dues(new long[] {x.houseOf(0, 1), x.wayOf(0, 3), x.where(), x.houseOf(2, 3), x.behind(0), x.status(5)},
                1, 0, 2, 68, 68, 7);
            x.said(0, 7);
            x.wander(9);
            x.house(0, 0, 0);
        }
    }

    // ---- promise 45: restore

    static void promise45_minus6ThereIsNone() {
        refused(Edges::bare, x -> x.restore(), -6);
        refused(Edges::full, x -> x.restore(), -6);
        refused(Edges::nowhere, x -> x.restore(), -6);
    }

    static void promise45_shelvesHoldHousesOfTheseNumbersOrNothing() {
        TwoHousesBehind x = rich();
        x.image();
        x.house(0, 0, 0);
        x.show(0, 6);
        x.show(1, 7);
        x.show(7, 7);
        x.show(6, 0);
        due(x.restore(), 7);
        dues(new long[] {x.holds(0), x.holds(1), x.holds(2), x.holds(3), x.holds(4), x.holds(5), x.holds(6), x.holds(7)},
            6, NONE, 102, 103, 2, 6, 0, NONE);
    }

    static void promise45_ofHousesThatAreGoneShelvesHoldNothing() {
        TwoHousesBehind x = bare();
        x.house(0, 0, 0);
        x.image();
        for (int house = 1; house < 8; house++) {
            x.house(0, 0, 0);
        }
        for (int s = 0; s < 8; s++) {
            x.show(s, s);
        }
        due(x.restore(), 1);
        for (int s = 0; s < 8; s++) {
            due(x.holds(s), s == 0 ? 0 : NONE);
        }
    }

    static void promise45_allButShelvesRefusalsFaultAndTrace() {
        TwoHousesBehind x = rich();
        long[] ahead = refusals(x);
        due(x.restore(), 6);
        // as it was when the IMAGE was taken: after one visit to the TWIST
        dues(new long[] {x.status(0), x.status(1), x.status(2), x.status(3), x.status(4), x.status(5), x.status(6)},
            6, 6, 0, 3, 0, 1, 1);
        dues(new long[] {x.where(), x.behind(0), x.behind(1), x.behind(2), x.houseOf(5, 4), x.houseOf(2, 3)}, 5, 64, 0, 0, 1, 0);
        dues(refusals(x), ahead);
        dues(new long[] {x.fault(), x.status(7), x.trace(0), x.trace(6)}, 3, 7, 41, 10);
        dues(new long[] {x.holds(0), x.element(0, 4), x.element(1, 1), x.element(3, 0), x.holds(4), x.holds(5)},
            100, 6, 300, 1L << 40, 2, NONE);
    }

    static void promise45_theHousesThatCameLaterAreGone() {
        TwoHousesBehind x = rich();
        x.restore();
        due(x.put(6), -1);
        due(x.go(6), -1);
        due(x.house(1, 2, 3), 6);
        due(x.way(6, 0, 4), 6);
        dues(new long[] {x.houseOf(6, 0), x.houseOf(6, 3), x.houseOf(6, 4), x.wayOf(6, 2)}, 1, 0, 0, 4);
    }

    // ---- promise 46: status

    static void promise46_noneForAnotherWhat() {
        int[] none = {LEAST, -2, -1, 8, 9, 10, 18, 19, MOST};
        for (int what : none) {
            idle(Edges::rich, x -> x.status(what), NONE);
        }
        long[] due = {7, 9, 2, 3, 23, 7, 77, 7};
        for (int what = 0; what < 8; what++) {
            int of = what;
            idle(Edges::rich, x -> x.status(of), due[what]);
        }
    }

    static void promise46_refusals11To17() {
        // rich() was refused once by each sort, and once more for its FAULT
        long[] due = {1, 1, 1, 1, 1, 2, 1};
        for (int i = 0; i < 7; i++) {
            int what = 11 + i;
            idle(Edges::rich, x -> x.status(what), due[i]);
        }
        TwoHousesBehind x = line(2);
        Call[] calls = {y -> y.put(9), y -> y.says(0, 0), y -> y.says(1, 0), y -> y.row(0, 0, -1), y -> y.behind(9),
            y -> y.lag(9), y -> y.row(0, 0, 161)};
        x.row(0, 0, 0);
        for (int i = 0; i < 7; i++) {
            for (int times = 0; times <= i; times++) {
                due(calls[i].on(x), -1 - i);
            }
        }
        dues(refusals(x), 1, 2, 3, 4, 5, 6, 7);
    }

    static void promise46_minus11Minus15AndMinus16AreCountedAsMinus1Minus5AndMinus6() {
        TwoHousesBehind x = line(2, 2);
        x.between(2, 0);
        x.aim(2, 0, 0, 1, 0);
        x.first(2, 0);
        dues(refusals(x), 3, 0, 0, 0, 0, 0, 0);
        x.aim(0, 1, 0, 1, -1);
        x.round(0, 0, 1, -1);
        dues(refusals(x), 3, 0, 0, 0, 2, 0, 0);
        x.aim(0, 1, 256, 1, 0);
        x.round(4, 0, 1, 0);
        x.first(0, 256);
        dues(refusals(x), 3, 0, 0, 0, 2, 3, 0);
    }

    static void promise46_waysThatAreShut() {
        TwoHousesBehind x = full();
        for (int way = 0; way < 12; way++) {
            due(x.status(2), way);
            x.shut(way, true);
        }
        due(x.status(2), 12);
        x.shut(11, false);
        due(x.status(2), 11);
        due(x.status(1), 12);
    }

    static void promise46_512Calls() {
        TwoHousesBehind refusing = bare();
        for (int call = 1; call < 512; call++) {
            refusing.who(-1);
        }
        due(refusing.status(16), 511);
        TwoHousesBehind wandering = bare();
        wandering.house(6, 1, 255);
        wandering.house(0, 2, 0);
        wandering.way(0, 1, 60);
        wandering.put(0);
        for (int call = 5; call < 508; call++) {
            wandering.wander(40);
        }
        dues(new long[] {wandering.status(5), wandering.status(4), wandering.where(), wandering.houseOf(0, 4), wandering.behind(0)},
            20121, 1207200, 0, 10061, 1);
        TwoHousesBehind acting = rich();
        for (int call = 200; call < 500; call++) {
            acting.act(3, 2, 9);
        }
        dues(new long[] {acting.status(7), acting.trace(0), acting.trace(6), acting.trace(7)}, 7, 41, 10, NONE);
    }
}
