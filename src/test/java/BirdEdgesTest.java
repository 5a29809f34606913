/** Edges of promises 19 to 29: visits, told routes. */
public final class BirdEdgesTest extends Edges {
    public static void main(String[] arguments) {
        run(BirdEdgesTest.class, 19, 29);
    }

    // ---- promise 19: put

    static void promise19_minus1NoSuchHouse() {
        refused(Edges::rich, x -> x.put(-1), -1);
        due(answered(Edges::rich, x -> x.put(0), 1).where(), 0);
        due(answered(Edges::rich, x -> x.put(6), 1).where(), 6);
        refused(Edges::rich, x -> x.put(7), -1);
        refused(Edges::rich, x -> x.put(LEAST), -1);
        refused(Edges::rich, x -> x.put(MOST), -1);
        refused(Edges::bare, x -> x.put(0), -1);
        due(answered(Edges::full, x -> x.put(7), 0).where(), 7);
        refused(Edges::full, x -> x.put(8), -1);
    }

    static void promise19_whereItIsIsAVisitToo() {
        TwoHousesBehind x = answered(Edges::rich, y -> y.put(2), 1);
        dues(new long[] {x.where(), x.houseOf(2, 4), x.houseOf(2, 3), x.status(5)}, 2, 3, 69, 8);
        dues(new long[] {x.behind(0), x.behind(1), x.behind(2)}, 68, 68, 0);
    }

    static void promise19_withoutAnyMinutes() {
        due(answered(Edges::rich, x -> x.put(3), 1).status(4), 23);
    }

    static void promise19_nothingIsSpokenIfThereWereNotSoManyVisits() {
        for (int v = 1; v <= 3; v++) {
            int lag = v;
            TwoHousesBehind x = line(8, lag);
            for (int visit = 1; visit <= 8; visit++) {
                // in visit n it says what was said in visit n less LAG, by the house of that number
                due(x.put(visit - 1), visit <= lag ? 0 : 1 << (visit - 1 - lag));
            }
        }
    }

    static void promise19_anEchoKnowsFromAhead() {
        TwoHousesBehind x = bare();
        x.house(0, 64, 0);
        x.house(2, 1, 0);
        x.lag(1);
        x.put(0);
        due(x.put(1), 64);
        due(x.behind(0), 1);
        due(x.houseOf(1, 3), 64);
        x.put(0);
        due(x.put(1), 64);
        due(x.behind(0), 65);
    }

    static void promise19_aGossipSaysWhatIsSpokenNowToo() {
        TwoHousesBehind x = bare();
        x.house(0, 64, 0);
        x.house(3, 1, 0);
        x.lag(1);
        x.put(0);
        due(x.put(1), 64);
        due(x.behind(0), 65);
    }

    static void promise19_aShyOneIfAnythingIsSpoken() {
        TwoHousesBehind x = bare();
        x.house(0, 128, 0);
        x.house(4, 7, 5);
        x.lag(1);
        x.put(1);
        due(x.behind(0), 7);
        x.lag(1);
        x.put(0);
        x.put(1);
        due(x.behind(0), 2);
        x.said(0, 0);
        x.put(0);
        x.put(1);
        due(x.behind(0), 7);
    }

    static void promise19_aTwistWordByWord() {
        for (int word = 0; word < 8; word++) {
            TwoHousesBehind x = bare();
            x.house(5, 1 << word, 0);
            x.put(0);
            due(x.behind(0), word == 7 ? 1 : 1 << (word + 1));
        }
        TwoHousesBehind x = bare();
        x.house(5, 129, 128);
        x.lag(1);
        x.put(0);
        due(x.behind(0), 3);
        x.put(0);
        due(x.behind(0), 2);
        x.said(0, 255);
        x.lag(1);
        x.put(0);
        due(x.behind(0), 255);
    }

    static void promise19_aLateOneIfItWasVisitedATimesAhead() {
        for (int a = 0; a < 4; a++) {
            TwoHousesBehind x = bare();
            x.house(6, 5, a);
            for (int ahead = 0; ahead < 6; ahead++) {
                x.put(0);
                due(x.behind(0), ahead >= a ? 5 : 0);
                due(x.houseOf(0, 4), ahead + 1);
            }
        }
        TwoHousesBehind x = bare();
        x.house(6, 5, 255);
        for (int ahead = 0; ahead < 255; ahead++) {
            x.put(0);
        }
        due(x.behind(0), 0);
        x.put(0);
        due(x.behind(0), 5);
        x.put(0);
        due(x.behind(0), 5);
    }

    // ---- promise 20: go

    static void promise20_minus1NoSuchWay() {
        refused(Edges::rich, x -> x.go(-1), -1);
        refused(Edges::rich, x -> x.go(9), -1);
        refused(Edges::rich, x -> x.go(LEAST), -1);
        refused(Edges::rich, x -> x.go(MOST), -1);
        due(answered(Edges::rich, x -> x.go(8), 1).where(), 1);
        answered(Edges::full, x -> x.go(11), 0);
        answered(Edges::full, x -> x.go(0), 0);
        refused(Edges::full, x -> x.go(12), -1);
    }

    static void promise20_minus6TheWayIsShut() {
        refused(Edges::rich, x -> x.go(2), -6);
        due(answered(Edges::rich, x -> x.go(1), 1).where(), 1);
        TwoHousesBehind x = rich();
        x.shut(2, false);
        due(x.go(2), 1);
        due(x.where(), 3);
    }

    static void promise20_minus6TheWayIsNotOfItsHouse() {
        refused(Edges::rich, x -> x.go(0), -6);
        refused(Edges::rich, x -> x.go(3), -6);
        refused(Edges::rich, x -> x.go(5), -6);
        refused(Edges::full, x -> x.go(1), -6);
    }

    static void promise20_minus6TheBirdIsNowhere() {
        refused(Edges::nowhere, x -> x.go(0), -6);
        refused(Edges::nowhere, x -> x.go(2), -6);
        refused(Edges::nowhere, x -> x.go(3), -1);
    }

    static void promise20_toTheOtherHouseAndMinutesGoBy() {
        TwoHousesBehind x = answered(Edges::rich, y -> y.go(7), 1);
        dues(new long[] {x.where(), x.status(4), x.status(5), x.houseOf(6, 4), x.houseOf(6, 3)}, 6, 31, 8, 1, 1);
        due(x.go(7), 0);
        dues(new long[] {x.where(), x.status(4), x.status(5)}, 2, 39, 9);
    }

    // ---- promise 21: where

    static void promise21_noneWhileItIsNowhere() {
        idle(Edges::bare, x -> x.where(), NONE);
        idle(Edges::nowhere, x -> x.where(), NONE);
    }

    static void promise21_fromHouse0On() {
        idle(Edges::full, x -> x.where(), 0);
        idle(Edges::rich, x -> x.where(), 2);
        due(answered(Edges::full, x -> x.put(7), 0).where(), 7);
    }

    // ---- promise 22: next

    static void promise22_nothingIfThereWereNotSoManyVisits() {
        for (int lag = 1; lag <= 3; lag++) {
            TwoHousesBehind x = line(8, lag);
            for (int visits = 0; visits < 5; visits++) {
                due(x.next(), visits < lag ? 0 : 1 << (visits - lag));
                x.put(visits);
            }
        }
        idle(Edges::rich, x -> x.next(), 1);
    }

    static void promise22_byBehindAlsoWhenTheBirdIsNowhere() {
        idle(Edges::bare, x -> x.next(), 0);
        idle(Edges::nowhere, x -> x.next(), 0);
        TwoHousesBehind x = nowhere();
        x.image();
        x.put(0);
        x.put(1);
        due(x.next(), 1);
        x.restore();
        dues(new long[] {x.where(), x.next(), x.behind(0), x.behind(1)}, NONE, 0, 0, 0);
    }

    // ---- promise 23: behind

    static void promise23_0ToLagLess1() {
        refused(Edges::rich, x -> x.behind(-1), -5);
        idle(Edges::rich, x -> x.behind(0), 68);
        idle(Edges::rich, x -> x.behind(1), 0);
        idle(Edges::rich, x -> x.behind(2), 1);
        refused(Edges::rich, x -> x.behind(3), -5);
        refused(Edges::rich, x -> x.behind(LEAST), -5);
        refused(Edges::rich, x -> x.behind(MOST), -5);
        for (int v = 1; v <= 3; v++) {
            int lag = v;
            Maker maker = () -> {
                TwoHousesBehind x = line(8, lag);
                for (int house = 0; house < 8; house++) {
                    x.put(house);
                }
                return x;
            };
            refused(maker, x -> x.behind(-1), -5);
            for (int i = 0; i < lag; i++) {
                int ago = i;
                idle(maker, x -> x.behind(ago), 128 >> i);
            }
            refused(maker, x -> x.behind(lag), -5);
            refused(maker, x -> x.behind(lag + 1), -5);
        }
    }

    static void promise23_nothingWhereThereWasNoVisit() {
        TwoHousesBehind x = line(8, 3);
        x.put(4);
        dues(new long[] {x.behind(0), x.behind(1), x.behind(2)}, 16, 0, 0);
        x.put(5);
        dues(new long[] {x.behind(0), x.behind(1), x.behind(2)}, 32, 16, 0);
        idle(Edges::bare, y -> y.behind(1), 0);
    }

    // ---- promise 24: answer

    static void promise24_minus1NoSuchHouse() {
        refused(Edges::rich, x -> x.answer(-1, 0), -1);
        idle(Edges::rich, x -> x.answer(0, 0), 1);
        idle(Edges::rich, x -> x.answer(6, 0), 0);
        refused(Edges::rich, x -> x.answer(7, 0), -1);
        refused(Edges::rich, x -> x.answer(MOST, 0), -1);
        refused(Edges::rich, x -> x.answer(LEAST, 0), -1);
    }

    static void promise24_minus6ASetBut0To255() {
        refused(Edges::rich, x -> x.answer(3, -1), -6);
        idle(Edges::rich, x -> x.answer(3, 0), 8);
        idle(Edges::rich, x -> x.answer(3, 1), 9);
        idle(Edges::rich, x -> x.answer(3, 254), 254);
        idle(Edges::rich, x -> x.answer(3, 255), 255);
        refused(Edges::rich, x -> x.answer(3, 256), -6);
        refused(Edges::rich, x -> x.answer(0, LEAST), -6);
        refused(Edges::rich, x -> x.answer(0, MOST), -6);
    }

    static void promise24_refusalsInTheirOrder() {
        refused(Edges::rich, x -> x.answer(7, 256), -1);
        refused(Edges::rich, x -> x.answer(-1, -1), -1);
    }

    static void promise24_nothingSpokenAndOneWordSpoken() {
        // HOUSE, QUIET, ECHO (it knows words 2 and 6), GOSSIP, SHY and TWIST (a: words 0 and 1), LATE (a: one visit)
        long[] silent = {1, 0, 68, 8, 16, 64, 0};
        long[] spoken = {1, 0, 68, 136, 16, 64, 0};
        for (int n = 0; n < 7; n++) {
            int house = n;
            idle(Edges::rich, x -> x.answer(house, 0), silent[n]);
            idle(Edges::rich, x -> x.answer(house, 128), spoken[n]);
        }
        Maker shy = () -> {
            TwoHousesBehind x = bare();
            x.house(4, 255, 129);
            x.house(5, 255, 129);
            return x;
        };
        idle(shy, x -> x.answer(0, 0), 255);
        idle(shy, x -> x.answer(0, 2), 126);
        idle(shy, x -> x.answer(1, 0), 255);
        idle(shy, x -> x.answer(1, 2), 252);
        Maker late = () -> {
            TwoHousesBehind x = rich();
            x.put(6);
            return x;
        };
        idle(late, x -> x.answer(6, 0), 64);
    }

    // ---- promise 25: between

    static void promise25_minus11NoSuchHouse() {
        refused(Edges::rich, x -> x.between(-1, 0), -11);
        refused(Edges::rich, x -> x.between(0, -1), -11);
        idle(Edges::rich, x -> x.between(0, 6), 6);
        idle(Edges::rich, x -> x.between(6, 0), 6);
        refused(Edges::rich, x -> x.between(7, 0), -11);
        refused(Edges::rich, x -> x.between(0, 7), -11);
        refused(Edges::rich, x -> x.between(8, 1), -11);
        refused(Edges::rich, x -> x.between(LEAST, MOST), -11);
        refused(Edges::bare, x -> x.between(0, 0), -11);
    }

    static void promise25_noneIsNotRefused() {
        idle(Edges::rich, x -> x.between(0, 0), NONE);
        idle(Edges::rich, x -> x.between(0, 2), NONE);
        idle(Edges::rich, x -> x.between(2, 3), NONE);
        idle(Edges::rich, x -> x.between(5, 0), NONE);
        idle(() -> line(1), x -> x.between(0, 0), NONE);
    }

    static void promise25_theFewestMinutesOfSeveralTheLeast() {
        // ways 1 (6 minutes) and 8 (7 minutes)
        idle(Edges::rich, x -> x.between(1, 2), 1);
        int[][] more = {{5, 9}, {6, 1}, {7, 1}};
        for (int[] one : more) {
            Maker maker = () -> {
                TwoHousesBehind x = rich();
                x.way(2, 1, one[0]);
                return x;
            };
            idle(maker, x -> x.between(1, 2), one[1]);
            idle(maker, x -> x.between(2, 1), one[1]);
        }
    }

    static void promise25_anOpenWay() {
        TwoHousesBehind x = rich();
        x.shut(1, true);
        due(x.between(1, 2), 8);
        x.shut(8, true);
        due(x.between(1, 2), NONE);
        x.shut(1, false);
        due(x.between(1, 2), 1);
    }

    static void promise25_alsoWhenTheBirdIsNowhere() {
        idle(Edges::nowhere, x -> x.between(0, 2), 2);
    }

    // ---- promises 26 to 29: told routes

    /** Steps that can't be from house 0 of a street of three in a line. */
    private static void noRoute(Told told, boolean judged) {
        long[] none = {-1, 0, 2, 3, 7, 8, 9, -8, 160, MOST, LEAST, (1L << 32) + 2};
        for (long step : none) {
            Maker maker = () -> {
                TwoHousesBehind x = line(3, 2);
                fill(x, 0, 3, step, 1, 0);
                return x;
            };
            if (judged) {
                idle(maker, x -> told.by(x, 0, 1), 0);
                idle(maker, x -> told.by(x, 0, 3), 0);
                idle(maker, x -> told.by(x, 0, 0), NONE);
            } else {
                refused(maker, x -> told.by(x, 0, 1), -6);
                refused(maker, x -> told.by(x, 0, 3), -6);
                idle(maker, x -> told.by(x, 0, 0), 0);
            }
        }
    }

    // ---- promise 26: judge

    static void promise26_shelves0To7() {
        shelves((x, s, n) -> x.judge(s, n));
    }

    static void promise26_n0To40() {
        sizes(40, (x, s, n) -> x.judge(s, n));
        idle(toAndFro(0), x -> x.judge(0, 0), NONE);
        idle(toAndFro(40), x -> x.judge(0, 0), NONE);
        idle(toAndFro(40), x -> x.judge(0, 1), NONE);
        idle(toAndFro(40), x -> x.judge(0, 39), NONE);
        idle(toAndFro(40), x -> x.judge(0, 40), NONE);
        idle(toAndFro(160), x -> x.judge(0, 40), NONE);
    }

    static void promise26_refusalsInTheirOrder() {
        order((x, s, n) -> x.judge(s, n));
    }

    static void promise26_whereItIsNoRoute() {
        noRoute((x, s, n) -> x.judge(s, n), true);
        for (int n = 0; n <= 5; n++) {
            int first = n;
            Maker maker = () -> {
                TwoHousesBehind x = line(3, 2);
                fill(x, 0, 2, 1, 2, 1, 1, 0);
                return x;
            };
            idle(maker, x -> x.judge(0, first), first <= 3 ? NONE : 3);
        }
        Maker last = () -> {
            TwoHousesBehind x = toAndFro(40).make();
            x.set(0, 39, 1);
            return x;
        };
        idle(last, x -> x.judge(0, 39), NONE);
        idle(last, x -> x.judge(0, 40), 39);
    }

    static void promise26_byAnOpenWay() {
        TwoHousesBehind x = toAndFro(4).make();
        x.shut(0, true);
        due(x.judge(0, 0), NONE);
        due(x.judge(0, 1), 0);
        due(x.status(16), 0);
    }

    // ---- promise 27: minutes

    static void promise27_shelves0To7() {
        shelves((x, s, n) -> x.minutes(s, n));
    }

    static void promise27_n0To40() {
        sizes(40, (x, s, n) -> x.minutes(s, n));
        idle(toAndFro(0), x -> x.minutes(0, 0), 0);
        idle(toAndFro(40), x -> x.minutes(0, 0), 0);
        idle(toAndFro(40), x -> x.minutes(0, 1), 1);
        idle(toAndFro(40), x -> x.minutes(0, 39), 39);
        idle(toAndFro(40), x -> x.minutes(0, 40), 40);
        Maker hour = () -> {
            TwoHousesBehind x = bare();
            x.house(0, 1, 0);
            x.house(0, 1, 0);
            x.way(1, 0, 60);
            x.put(0);
            x.row(0, 0, 40);
            for (int i = 0; i < 40; i += 2) {
                x.set(0, i, 1);
            }
            return x;
        };
        idle(hour, x -> x.minutes(0, 40), 2400);
    }

    static void promise27_refusalsInTheirOrder() {
        order((x, s, n) -> x.minutes(s, n));
    }

    static void promise27_minus6ItIsNoRoute() {
        noRoute((x, s, n) -> x.minutes(s, n), false);
    }

    static void promise27_byTheWayOfTheFewestMinutes() {
        int[] due = {2, 3, 3};
        for (int i = 0; i < 3; i++) {
            int minutes = i + 2;
            Maker maker = () -> {
                TwoHousesBehind x = bare();
                x.house(0, 1, 0);
                x.house(0, 1, 0);
                x.way(0, 1, 3);
                x.way(1, 0, minutes);
                x.put(0);
                fill(x, 0, 0, 1);
                return x;
            };
            idle(maker, x -> x.minutes(0, 1), due[i]);
        }
    }

    // ---- promise 28: hears

    static void promise28_shelves0To7() {
        shelves((x, s, n) -> x.hears(s, n, 0));
    }

    static void promise28_minus1NoSuchHouse() {
        refused(toAndFro(4), x -> x.hears(0, 4, -1), -1);
        idle(toAndFro(4), x -> x.hears(0, 4, 0), 1);
        idle(toAndFro(4), x -> x.hears(0, 4, 1), 2);
        refused(toAndFro(4), x -> x.hears(0, 4, 2), -1);
        refused(toAndFro(4), x -> x.hears(0, 4, MOST), -1);
        refused(toAndFro(4), x -> x.hears(0, 4, LEAST), -1);
    }

    static void promise28_n0To40() {
        sizes(40, (x, s, n) -> x.hears(s, n, 0));
        idle(toAndFro(0), x -> x.hears(0, 0, 1), 0);
        idle(toAndFro(40), x -> x.hears(0, 0, 1), 0);
        idle(toAndFro(40), x -> x.hears(0, 2, 1), 0);
        idle(toAndFro(40), x -> x.hears(0, 3, 1), 2);
        idle(toAndFro(40), x -> x.hears(0, 3, 0), 0);
        idle(toAndFro(40), x -> x.hears(0, 4, 0), 1);
        idle(toAndFro(40), x -> x.hears(0, 39, 0), 1);
        idle(toAndFro(40), x -> x.hears(0, 40, 0), 1);
        // a LATE house whose first word is heard at the last of 40 visits
        Maker late = () -> {
            TwoHousesBehind x = toAndFro(40).make();
            x.house(6, 8, 18);
            x.way(2, 0, 1);
            for (int i = 0; i < 40; i += 2) {
                x.set(0, i, 2);
            }
            return x;
        };
        idle(late, x -> x.hears(0, 38, 2), 0);
        idle(late, x -> x.hears(0, 39, 2), 8);
        idle(late, x -> x.hears(0, 40, 2), 8);
    }

    static void promise28_visitsAndWordsOfTheRouteCount() {
        // a LATE one amid three houses: visited twice on the route, it says word 7 at the third time
        Maker late = () -> {
            TwoHousesBehind x = bare();
            x.house(0, 1, 0);
            x.house(6, 128, 2);
            x.house(0, 2, 0);
            x.house(2, 0, 0);
            x.way(0, 1, 1);
            x.way(0, 2, 1);
            x.way(0, 3, 1);
            x.put(0);
            x.lag(1);
            fill(x, 0, 0, 2, 0, 1, 0, 1, 0, 2, 0, 1, 0, 3, 0, 3, 0);
            return x;
        };
        long[] due = {0, 2, 2, 2, 2, 2, 2, 2, 2, 130};
        for (int n = 1; n <= due.length; n++) {
            int first = n;
            idle(late, x -> x.hears(0, first, 0), due[n - 1]);
        }
        // the ECHO says word 0, that it heard at its first visit, at its second
        idle(late, x -> x.hears(0, 11, 3), 1);
        idle(late, x -> x.other(0, 12, 1), 0);
        idle(late, x -> x.other(0, 14, 1), 1);
        idle(late, x -> x.houseOf(1, 4), 0);
    }

    /** House 0 is LATE, visited once by the put ahead: on the route it says word 7 at its second visit more. */
    static void promise28_aLateHouse0() {
        Maker late = () -> {
            TwoHousesBehind x = bare();
            x.house(6, 128, 2);
            x.house(0, 1, 0);
            x.way(0, 1, 1);
            x.put(0);
            x.put(1);
            x.lag(1);
            fill(x, 0, 0, 0, 1, 0, 1, 0, 1);
            return x;
        };
        long[] due = {0, 0, 0, 128, 128, 128};
        for (int n = 1; n <= due.length; n++) {
            int first = n;
            idle(late, x -> x.hears(0, first, 1), due[n - 1]);
        }
    }

    static void promise28_refusalsInTheirOrder() {
        order((x, s, n) -> x.hears(s, n, 0));
        refused(Edges::nowhere, x -> x.hears(4, -1, 3), -1);
        refused(Edges::nowhere, x -> x.hears(6, -1, -1), -1);
        refused(Edges::nowhere, x -> x.hears(2, -1, 3), -1);
        refused(Edges::nowhere, x -> x.hears(2, 8, 3), -1);
    }

    static void promise28_minus6ItIsNoRoute() {
        noRoute((x, s, n) -> x.hears(s, n, 0), false);
    }

    // ---- promise 29: other

    static void promise29_shelves0To7() {
        shelves((x, s, n) -> x.other(s, n, 1));
    }

    static void promise29_lag1To3() {
        refused(toAndFro(4), x -> x.other(0, 4, LEAST), -6);
        refused(toAndFro(4), x -> x.other(0, 4, -1), -6);
        refused(toAndFro(4), x -> x.other(0, 4, 0), -6);
        idle(toAndFro(4), x -> x.other(0, 4, 1), 2);
        idle(toAndFro(4), x -> x.other(0, 4, 2), 1);
        idle(toAndFro(4), x -> x.other(0, 4, 3), 2);
        refused(toAndFro(4), x -> x.other(0, 4, 4), -6);
        refused(toAndFro(4), x -> x.other(0, 4, MOST), -6);
        refused(toAndFro(4), x -> x.other(0, 0, 0), -6);
        refused(toAndFro(4), x -> x.other(0, 0, 4), -6);
    }

    static void promise29_n0To40() {
        sizes(40, (x, s, n) -> x.other(s, n, 1));
        idle(toAndFro(0), x -> x.other(0, 0, 1), 0);
        idle(toAndFro(40), x -> x.other(0, 0, 3), 0);
        for (int v = 1; v <= 3; v++) {
            int lag = v;
            idle(toAndFro(40), x -> x.other(0, 1, lag), 0);
            idle(toAndFro(40), x -> x.other(0, lag, lag), 0);
            idle(toAndFro(40), x -> x.other(0, lag + 1, lag), 2);
            idle(toAndFro(40), x -> x.other(0, lag + 2, lag), 1);
            idle(toAndFro(40), x -> x.other(0, 39, lag), lag % 2 == 0 ? 2 : 1);
            idle(toAndFro(40), x -> x.other(0, 40, lag), lag % 2 == 0 ? 1 : 2);
        }
    }

    static void promise29_nothingBeingBehind() {
        Maker behind = () -> {
            TwoHousesBehind x = toAndFro(4).make();
            x.put(1);
            x.put(0);
            return x;
        };
        idle(behind, x -> x.hears(0, 1, 1), 2);
        for (int v = 1; v <= 3; v++) {
            int lag = v;
            idle(behind, x -> x.other(0, 1, lag), 0);
            idle(behind, x -> x.other(0, lag, lag), 0);
            idle(behind, x -> x.other(0, lag + 1, lag), 2);
        }
    }

    static void promise29_refusalsInTheirOrder() {
        order((x, s, n) -> x.other(s, n, 1));
        order((x, s, n) -> x.other(s, n, 0));
        refused(toAndFro(4), x -> x.other(0, 5, 0), -5);
    }

    static void promise29_minus6ItIsNoRoute() {
        noRoute((x, s, n) -> x.other(s, n, 2), false);
    }
}
