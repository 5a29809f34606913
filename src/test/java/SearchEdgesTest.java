/** Edges of promises 30 to 37: what can be. */
public final class SearchEdgesTest extends Edges {
    private static final long ALL = 27720;

    public static void main(String[] arguments) {
        run(SearchEdgesTest.class, 30, 37);
    }

    // In line(n, 1) the bird says in each house what was said in the house ahead: house 6, say, hears word 5 first at
    // the end of six visits.

    // ---- promise 30: aim

    static void promise30_minus11NoSuchHouse() {
        refused(() -> line(3, 1), x -> x.aim(-1, 0, 1, 1, 0), -11);
        refused(() -> line(3, 1), x -> x.aim(0, -1, 1, 1, 0), -11);
        idle(() -> line(3, 1), x -> x.aim(2, 0, 2, 2, 0), 2);
        idle(() -> line(3, 1), x -> x.aim(0, 2, 2, 2, 0), 2);
        refused(() -> line(3, 1), x -> x.aim(3, 0, 2, 2, 0), -11);
        refused(() -> line(3, 1), x -> x.aim(0, 3, 2, 2, 0), -11);
        refused(() -> line(3, 1), x -> x.aim(MOST, LEAST, 2, 2, 0), -11);
        refused(Edges::bare, x -> x.aim(0, 0, 0, 1, 0), -11);
        idle(Edges::full, x -> x.aim(7, 0, 0, 1, 0), 0);
        refused(Edges::full, x -> x.aim(8, 0, 0, 1, 0), -11);
    }

    static void promise30_minus15WhatBelow0() {
        refused(() -> line(3, 1), x -> x.aim(2, 0, 2, 2, -1), -15);
        refused(() -> line(3, 1), x -> x.aim(2, 0, 2, 2, LEAST), -15);
        idle(() -> line(3, 1), x -> x.aim(2, 0, 2, 2, 0), 2);
        idle(() -> line(3, 1), x -> x.aim(2, 0, 2, 2, 1), 2);
    }

    static void promise30_noneNoSuchPlace() {
        long[] due = {2, 2, 1, 2, NONE, NONE};
        for (int what = 0; what < due.length; what++) {
            int of = what;
            idle(() -> line(3, 1), x -> x.aim(2, 0, 2, 6, of), due[what]);
        }
        idle(() -> line(3, 1), x -> x.aim(2, 0, 2, 6, 8), NONE);
        idle(() -> line(3, 1), x -> x.aim(2, 0, 2, 6, MOST), NONE);
    }

    static void promise30_minus16ASetBut0To255() {
        refused(() -> line(3, 1), x -> x.aim(2, 0, -1, 2, 0), -16);
        idle(() -> line(3, 1), x -> x.aim(2, 0, 0, 2, 0), 0);
        idle(() -> line(3, 1), x -> x.aim(2, 0, 2, 2, 0), 2);
        idle(() -> line(3, 1), x -> x.aim(2, 0, 255, 2, 0), NONE);
        refused(() -> line(3, 1), x -> x.aim(2, 0, 256, 2, 0), -16);
        refused(() -> line(3, 1), x -> x.aim(2, 0, LEAST, 2, 0), -16);
        refused(() -> line(3, 1), x -> x.aim(2, 0, MOST, 2, 0), -16);
        Maker all = () -> {
            TwoHousesBehind x = line(3, 1);
            x.said(1, 255);
            return x;
        };
        idle(all, x -> x.aim(2, 0, 255, 2, 0), 2);
    }

    static void promise30_k1To6() {
        refused(() -> line(7, 1), x -> x.aim(1, 2, 1, LEAST, 0), -16);
        refused(() -> line(7, 1), x -> x.aim(1, 2, 1, -1, 0), -16);
        refused(() -> line(7, 1), x -> x.aim(1, 2, 1, 0, 0), -16);
        idle(() -> line(7, 1), x -> x.aim(2, 0, 2, 1, 0), NONE);
        idle(() -> line(7, 1), x -> x.aim(2, 0, 2, 2, 0), 2);
        idle(() -> line(7, 1), x -> x.aim(6, 0, 32, 5, 0), NONE);
        idle(() -> line(7, 1), x -> x.aim(6, 0, 32, 6, 0), 6);
        idle(() -> line(7, 1), x -> x.aim(6, 0, 32, 6, 1), 6);
        idle(() -> line(7, 1), x -> x.aim(6, 0, 32, 6, 2), 1);
        idle(() -> line(7, 1), x -> x.aim(6, 0, 32, 6, 7), 6);
        idle(() -> line(7, 1), x -> x.aim(6, 0, 32, 6, 8), NONE);
        refused(() -> line(7, 1), x -> x.aim(6, 0, 32, 7, 0), -16);
        refused(() -> line(7, 1), x -> x.aim(6, 0, 32, MOST, 0), -16);
    }

    static void promise30_minus16TheBirdIsNowhere() {
        refused(Edges::nowhere, x -> x.aim(0, 1, 0, 1, 0), -16);
        refused(Edges::nowhere, x -> x.aim(2, 1, 1, 6, 9), -16);
    }

    static void promise30_refusalsInTheirOrder() {
        refused(Edges::nowhere, x -> x.aim(3, 0, 256, 0, -1), -11);
        refused(Edges::nowhere, x -> x.aim(0, 3, 256, 0, -1), -11);
        refused(Edges::nowhere, x -> x.aim(0, 1, 256, 0, -1), -15);
        refused(() -> line(3, 1), x -> x.aim(0, 1, -1, 7, -1), -15);
    }

    static void promise30_anEmptySetIsMetAtOnce() {
        idle(Edges::rich, x -> x.aim(0, 1, 0, 1, 0), 0);
        idle(Edges::rich, x -> x.aim(0, 1, 0, 1, 1), 0);
        idle(Edges::rich, x -> x.aim(0, 1, 0, 1, 2), NONE);
        idle(Edges::rich, x -> x.aim(2, 2, 0, 6, 0), 0);
        idle(() -> line(1, 1), x -> x.aim(0, 0, 0, 6, 0), 0);
    }

    static void promise30_heNoneOfThem() {
        idle(() -> line(3, 1), x -> x.aim(2, 2, 2, 6, 0), NONE);
        idle(() -> line(3, 1), x -> x.aim(2, 1, 2, 6, 0), 2);
        // from the middle of a line to the left: who is to the right hears nothing, but on the way back 1 hears word 0
        Maker middle = () -> {
            TwoHousesBehind x = line(3, 1);
            x.put(1);
            x.lag(1);
            return x;
        };
        idle(middle, x -> x.aim(1, 2, 1, 6, 0), 2);
        idle(middle, x -> x.aim(1, 0, 1, 6, 0), 2);
        idle(middle, x -> x.aim(2, 1, 3, 6, 0), NONE);
        idle(middle, x -> x.aim(1, 2, 5, 6, 0), 4);
        // of words 0 and 1 house 0 hears the latter: one of them is enough to rule the route out
        idle(middle, x -> x.aim(1, 0, 5, 6, 0), 4);
        idle(middle, x -> x.aim(1, 0, 4, 6, 0), 2);
    }

    /** From house 0 to 3, that hears word 0, at once, or by 1 or 2, that say word 0 too. */
    private static Maker diamond(int direct, int byOne, int byTwo) {
        return () -> {
            TwoHousesBehind x = bare();
            for (int house = 0; house < 5; house++) {
                x.house(0, 1, 0);
            }
            x.way(0, 3, direct);
            x.way(0, 1, byOne - 1);
            x.way(1, 3, 1);
            x.way(0, 2, byTwo - 1);
            x.way(2, 3, 1);
            x.lag(1);
            x.put(0);
            return x;
        };
    }

    private static void takes(Maker maker, long minutes, long... row) {
        idle(maker, x -> x.aim(3, 4, 1, 6, 0), minutes);
        idle(maker, x -> x.aim(3, 4, 1, 6, 1), row.length);
        for (int i = 0; i < row.length; i++) {
            int place = 2 + i;
            idle(maker, x -> x.aim(3, 4, 1, 6, place), row[i]);
        }
        int behind = 2 + row.length;
        idle(maker, x -> x.aim(3, 4, 1, 6, behind), NONE);
    }

    static void promise30_theFewestMinutesThenTheFewestVisitsThenTheFirstRow() {
        takes(diamond(9, 10, 10), 9, 3);
        takes(diamond(10, 10, 10), 10, 3);
        takes(diamond(11, 10, 10), 10, 1, 3);
        takes(diamond(11, 10, 9), 9, 2, 3);
        takes(diamond(11, 9, 10), 9, 1, 3);
    }

    static void promise30_ofTheSameMinutesMoreVisitsComeBehindThoughTheirHousesHaveGreaterNumbers() {
        // from house 0 to 1, that hears word 0, at once or by 2 or 3, that say word 0 too
        for (int direct = 9; direct <= 11; direct++) {
            int minutes = direct;
            Maker maker = () -> {
                TwoHousesBehind x = bare();
                for (int house = 0; house < 5; house++) {
                    x.house(0, 1, 0);
                }
                x.way(0, 1, minutes);
                x.way(0, 2, 5);
                x.way(2, 1, 5);
                x.way(0, 3, 5);
                x.way(3, 1, 5);
                x.lag(1);
                x.put(0);
                return x;
            };
            idle(maker, x -> x.aim(1, 4, 1, 6, 0), Math.min(10, direct));
            idle(maker, x -> x.aim(1, 4, 1, 6, 1), direct <= 10 ? 1 : 2);
            idle(maker, x -> x.aim(1, 4, 1, 6, 2), direct <= 10 ? 1 : 2);
            idle(maker, x -> x.aim(1, 4, 1, 6, 3), direct <= 10 ? NONE : 1);
        }
    }

    // ---- promise 31: round

    static void promise31_aSetOfHousesThatThereAre() {
        refused(() -> line(3, 1), x -> x.round(-1, 0, 1, 0), -16);
        idle(() -> line(3, 1), x -> x.round(0, 0, 1, 0), 0);
        idle(() -> line(3, 1), x -> x.round(1, 0, 1, 0), 0);
        idle(() -> line(3, 1), x -> x.round(7, 0, 1, 0), 0);
        refused(() -> line(3, 1), x -> x.round(8, 0, 1, 0), -16);
        refused(() -> line(3, 1), x -> x.round(LEAST, 0, 1, 0), -16);
        refused(() -> line(3, 1), x -> x.round(MOST, 0, 1, 0), -16);
        idle(Edges::full, x -> x.round(255, 0, 1, 0), 0);
        refused(Edges::full, x -> x.round(256, 0, 1, 0), -16);
    }

    static void promise31_minus15WhatBelow0() {
        refused(() -> line(3, 1), x -> x.round(1, 2, 2, -1), -15);
        refused(() -> line(3, 1), x -> x.round(1, 2, 2, LEAST), -15);
        idle(() -> line(3, 1), x -> x.round(1, 2, 2, 0), 2);
    }

    static void promise31_noneNoSuchPlace() {
        long[] due = {2, 2, 1, 0, NONE, NONE};
        for (int what = 0; what < due.length; what++) {
            int of = what;
            idle(() -> line(3, 1), x -> x.round(1, 2, 6, of), due[what]);
        }
        idle(() -> line(3, 1), x -> x.round(1, 2, 6, MOST), NONE);
        idle(() -> line(3, 1), x -> x.round(1, 4, 6, 0), NONE);
        idle(() -> line(3, 1), x -> x.round(1, 4, 6, 2), NONE);
    }

    static void promise31_minus16ASetBut0To255() {
        refused(() -> line(3, 1), x -> x.round(1, -1, 2, 0), -16);
        idle(() -> line(3, 1), x -> x.round(1, 0, 2, 0), 0);
        idle(() -> line(3, 1), x -> x.round(1, 255, 2, 0), NONE);
        idle(() -> line(3, 1), x -> x.round(0, 255, 2, 0), 0);
        refused(() -> line(3, 1), x -> x.round(1, 256, 2, 0), -16);
        refused(() -> line(3, 1), x -> x.round(0, 256, 2, 0), -16);
        refused(() -> line(3, 1), x -> x.round(0, LEAST, 2, 0), -16);
    }

    static void promise31_k1To6() {
        refused(() -> line(4, 1), x -> x.round(8, 4, 0, 0), -16);
        refused(() -> line(4, 1), x -> x.round(8, 4, -1, 0), -16);
        idle(() -> line(4, 1), x -> x.round(8, 4, 1, 0), NONE);
        idle(() -> line(4, 1), x -> x.round(1, 2, 1, 0), NONE);
        idle(() -> line(4, 1), x -> x.round(1, 2, 2, 0), 2);
        idle(() -> line(4, 1), x -> x.round(8, 4, 5, 0), NONE);
        idle(() -> line(4, 1), x -> x.round(8, 4, 6, 0), 6);
        idle(() -> line(4, 1), x -> x.round(8, 4, 6, 7), 0);
        idle(() -> line(4, 1), x -> x.round(8, 4, 6, 8), NONE);
        refused(() -> line(4, 1), x -> x.round(8, 4, 7, 0), -16);
        refused(() -> line(4, 1), x -> x.round(8, 4, MOST, 0), -16);
    }

    static void promise31_minus16TheBirdIsNowhere() {
        refused(Edges::nowhere, x -> x.round(0, 0, 1, 0), -16);
        refused(Edges::bare, x -> x.round(0, 0, 1, 0), -16);
    }

    static void promise31_refusalsInTheirOrder() {
        refused(Edges::nowhere, x -> x.round(-1, 256, 0, -1), -15);
        refused(() -> line(3, 1), x -> x.round(8, -1, 7, -1), -15);
    }

    static void promise31_anEmptySetIsMetAtOnce() {
        idle(Edges::rich, x -> x.round(127, 0, 1, 1), 0);
        idle(Edges::rich, x -> x.round(0, 255, 1, 1), 0);
        idle(Edges::rich, x -> x.round(0, 255, 1, 2), NONE);
    }

    static void promise31_itEndsWhereTheBirdIsNow() {
        // house 2 hears word 1 at the second visit, but the way back is two more
        idle(() -> line(3, 1), x -> x.round(4, 2, 3, 0), NONE);
        idle(() -> line(3, 1), x -> x.round(4, 2, 4, 0), 4);
        idle(() -> line(3, 1), x -> x.round(5, 2, 4, 0), 4);
        idle(() -> line(3, 1), x -> x.round(7, 2, 6, 0), NONE);
    }

    static void promise31_oneSearchLeavesNothingToTheNext() {
        TwoHousesBehind x = line(4, 1);
        x.row(0, 2, 2);
        x.row(1, 2, 2);
        x.set(1, 1, 99);
        for (int times = 0; times < 2; times++) {
            due(x.aim(2, 0, 2, 6, 0), 2);
            due(x.aim(2, 2, 2, 6, 0), NONE);
            due(x.round(8, 4, 6, 0), 6);
            due(x.round(8, 4, 5, 0), NONE);
            due(x.aim(2, 0, 0, 6, 1), 0);
            due(x.round(8, 4, 5, 2), NONE);
            due(x.fits(0, 1), 1);
            due(x.from(0, 1, NONE), 2);
            due(x.fits(1, 2), 0);
            due(x.from(1, 2, NONE), 0);
            due(x.reach(2, 2), 2);
            due(x.odds(2, 2, 2), ALL * ALL / 2);
            due(x.shuts(2, 2, 2), 1);
            due(x.first(2, 2), 2);
            due(x.between(0, 1), 0);
            due(x.judge(0, 1), 0);
            due(x.other(0, 0, 3), 0);
        }
    }

    // ---- promise 32: fits

    static void promise32_shelves0To7() {
        shelves((x, s, n) -> x.fits(s, n));
    }

    static void promise32_refusalsInTheirOrder() {
        order((x, s, n) -> x.fits(s, n));
    }

    /** line(2, 1) with the one row of sets that fits six visits in shelf 0, and one more element. */
    private static TwoHousesBehind sets() {
        TwoHousesBehind x = line(2, 1);
        fill(x, 0, 2, 0, 2, 1, 2, 1, 2, 1);
        return x;
    }

    static void promise32_n0To6() {
        sizes(6, (x, s, n) -> x.fits(s, n));
        for (int n = 0; n <= 6; n++) {
            int first = n;
            idle(SearchEdgesTest::sets, x -> x.fits(0, first), 1);
        }
        refused(SearchEdgesTest::sets, x -> x.fits(0, 7), -6);
        refused(SearchEdgesTest::sets, x -> x.fits(0, 8), -5);
        refused(SearchEdgesTest::sets, x -> x.fits(0, -1), -4);
    }

    static void promise32_ofNoSetsIs1() {
        idle(Edges::rich, x -> x.fits(7, 0), 1);
        idle(() -> {
            TwoHousesBehind x = line(1, 1);
            x.row(0, 3, 0);
            return x;
        }, x -> x.fits(0, 0), 1);
    }

    static void promise32_justTheseOneAtEach() {
        int[] other = {1, 3, 0, 3, 0, 6};
        for (int i = 0; i < 6; i++) {
            int place = i;
            Maker maker = () -> {
                TwoHousesBehind x = sets();
                x.set(0, place, other[place]);
                return x;
            };
            for (int n = 0; n <= 6; n++) {
                int first = n;
                idle(maker, x -> x.fits(0, first), n > i ? 0 : 1);
            }
        }
        long[] none = {-1, 256, 258, LEAST};
        for (long set : none) {
            idle(() -> {
                TwoHousesBehind x = sets();
                x.set(0, 1, set);
                return x;
            }, x -> x.fits(0, 2), 0);
        }
    }

    static void promise32_howMany() {
        Maker maker = () -> {
            TwoHousesBehind x = line(3, 3);
            x.row(0, 0, 6);
            return x;
        };
        long[] due = {1, 1, 2, 2, 0};
        for (int n = 0; n < due.length; n++) {
            int first = n;
            idle(maker, x -> x.fits(0, first), due[n]);
        }
        // from house 0 with no way that is open there is none but that of no visits
        Maker shut = () -> {
            TwoHousesBehind x = maker.make();
            x.shut(0, true);
            return x;
        };
        idle(shut, x -> x.fits(0, 0), 1);
        idle(shut, x -> x.fits(0, 1), 0);
    }

    // ---- promise 33: from

    static void promise33_shelves0To7() {
        shelves((x, s, n) -> x.from(s, n, NONE));
    }

    static void promise33_refusalsInTheirOrder() {
        order((x, s, n) -> x.from(s, n, NONE));
        refused(Edges::nowhere, x -> x.from(8, -1, -2), -1);
        refused(Edges::nowhere, x -> x.from(4, -1, -2), -2);
        refused(Edges::nowhere, x -> x.from(6, -1, -2), -3);
        refused(Edges::nowhere, x -> x.from(2, -1, -2), -4);
        refused(Edges::nowhere, x -> x.from(2, 3, -2), -5);
        refused(Edges::nowhere, x -> x.from(2, 3, 3), -5);
        refused(Edges::nowhere, x -> x.from(2, 7, 7), -5);
        refused(Edges::nowhere, x -> x.from(2, 3, 2), -6);
        refused(SearchEdgesTest::sets, x -> x.from(0, 7, 7), -5);
        refused(SearchEdgesTest::sets, x -> x.from(0, 7, 6), -6);
    }

    static void promise33_n0To6() {
        sizes(6, (x, s, n) -> x.from(s, n, NONE));
        for (int n = 0; n <= 6; n++) {
            int first = n;
            idle(SearchEdgesTest::sets, x -> x.from(0, first, NONE), n % 2 == 0 ? 1 : 2);
        }
        refused(SearchEdgesTest::sets, x -> x.from(0, 7, NONE), -6);
    }

    static void promise33_minus5NoSuchPlace() {
        for (int n = 0; n <= 6; n++) {
            int first = n;
            refused(SearchEdgesTest::sets, x -> x.from(0, first, -2), -5);
            for (int i = 0; i < n; i++) {
                int place = i;
                idle(SearchEdgesTest::sets, x -> x.from(0, first, place), i % 2 == 0 ? 1 : 0);
            }
            refused(SearchEdgesTest::sets, x -> x.from(0, first, first), -5);
            refused(SearchEdgesTest::sets, x -> x.from(0, first, first + 1), -5);
        }
        refused(SearchEdgesTest::sets, x -> x.from(0, 6, LEAST), -5);
        refused(SearchEdgesTest::sets, x -> x.from(0, 6, MOST), -5);
    }

    static void promise33_minus5NoSuchRoute() {
        Maker maker = () -> {
            TwoHousesBehind x = sets();
            x.set(0, 2, 7);
            return x;
        };
        idle(maker, x -> x.from(0, 2, 1), 0);
        refused(maker, x -> x.from(0, 3, 0), -5);
        refused(maker, x -> x.from(0, 3, 2), -5);
        idle(maker, x -> x.from(0, 3, NONE), 0);
    }

    static void promise33_theFirstByNumbersAndHousesAtTheEnd() {
        Maker maker = () -> {
            TwoHousesBehind x = bare();
            for (int house = 0; house < 8; house++) {
                x.house(0, 1, 0);
            }
            for (int house = 7; house > 0; house--) {
                x.way(0, house, 1);
            }
            x.put(0);
            x.lag(2);
            x.row(0, 1, 6);
            x.set(0, 2, 1);
            return x;
        };
        idle(maker, x -> x.from(0, 1, 0), 1);
        idle(maker, x -> x.from(0, 1, NONE), 254);
        idle(maker, x -> x.from(0, 2, NONE), 1);
        idle(maker, x -> x.from(0, 3, 0), 1);
        idle(maker, x -> x.from(0, 3, 1), 0);
        idle(maker, x -> x.from(0, 3, 2), 1);
        idle(maker, x -> x.from(0, 3, NONE), 254);
    }

    // ---- promises 34 to 37: houses, sets, where the bird is

    private interface Asked {
        long by(TwoHousesBehind x, int house, int set, int k);
    }

    private static void houses(Asked asked, int less) {
        refused(() -> line(3, 1), x -> asked.by(x, -1, 1, 1), -1 - less);
        refused(() -> line(3, 1), x -> asked.by(x, 3, 1, 1), -1 - less);
        refused(() -> line(3, 1), x -> asked.by(x, LEAST, 1, 1), -1 - less);
        refused(() -> line(3, 1), x -> asked.by(x, MOST, 1, 1), -1 - less);
        refused(Edges::bare, x -> asked.by(x, 0, 1, 1), -1 - less);
        refused(Edges::full, x -> asked.by(x, 8, 1, 1), -1 - less);
        holds("house 0 is there", asked.by(line(3, 1), 0, 1, 1) >= NONE);
        holds("house 2 is there", asked.by(line(3, 1), 2, 1, 1) >= NONE);
        holds("house 7 is there", asked.by(full(), 7, 1, 1) >= NONE);
    }

    private static void wrongSets(Asked asked, int less) {
        refused(() -> line(3, 1), x -> asked.by(x, 0, -1, 1), -6 - less);
        refused(() -> line(3, 1), x -> asked.by(x, 0, 256, 1), -6 - less);
        refused(() -> line(3, 1), x -> asked.by(x, 0, LEAST, 1), -6 - less);
        refused(() -> line(3, 1), x -> asked.by(x, 0, MOST, 1), -6 - less);
        holds("255 is a set", asked.by(line(3, 1), 0, 255, 1) >= NONE);
    }

    private static void nowhereOrder(Asked asked, int less) {
        refused(Edges::nowhere, x -> asked.by(x, 0, 0, 1), -6 - less);
        refused(Edges::nowhere, x -> asked.by(x, 2, 1, 1), -6 - less);
        refused(Edges::nowhere, x -> asked.by(x, 3, 1, 1), -1 - less);
        refused(Edges::nowhere, x -> asked.by(x, -1, 256, 9), -1 - less);
        refused(() -> line(3, 1), x -> asked.by(x, 3, -1, -1), -1 - less);
    }

    // ---- promise 34: odds

    static void promise34_minus1NoSuchHouse() {
        houses((x, house, set, k) -> x.odds(house, set, k), 0);
    }

    static void promise34_minus6ASetBut0To255() {
        wrongSets((x, house, set, k) -> x.odds(house, set, k), 0);
        idle(() -> line(3, 1), x -> x.odds(0, 0, 1), ALL);
        idle(() -> line(3, 1), x -> x.odds(0, 255, 1), 0);
    }

    static void promise34_minus6TheBirdIsNowhere() {
        nowhereOrder((x, house, set, k) -> x.odds(house, set, k), 0);
    }

    static void promise34_k1To4() {
        refused(() -> line(5, 1), x -> x.odds(0, 0, LEAST), -6);
        refused(() -> line(5, 1), x -> x.odds(0, 0, -1), -6);
        refused(() -> line(5, 1), x -> x.odds(0, 0, 0), -6);
        long all = 1;
        for (int v = 1; v <= 4; v++) {
            int k = v;
            all *= ALL;
            idle(() -> line(5, 1), x -> x.odds(0, 0, k), all);
        }
        refused(() -> line(5, 1), x -> x.odds(0, 0, 5), -6);
        refused(() -> line(5, 1), x -> x.odds(0, 0, MOST), -6);
    }

    static void promise34_inKVisits() {
        long half = ALL / 2;
        idle(() -> line(5, 1), x -> x.odds(4, 8, 3), 0);
        idle(() -> line(5, 1), x -> x.odds(4, 8, 4), ALL * half * half * half);
        idle(() -> line(5, 1), x -> x.odds(2, 2, 1), 0);
        idle(() -> line(5, 1), x -> x.odds(2, 2, 2), ALL * half);
        idle(() -> line(5, 1), x -> x.odds(2, 2, 3), ALL * half * ALL);
    }

    static void promise34_fromWhereTheBirdIs() {
        // from house 1 of a line of three it has two ways, from 0 and 2 one
        Maker middle = () -> {
            TwoHousesBehind x = line(3, 1);
            x.put(1);
            return x;
        };
        idle(middle, x -> x.odds(0, 2, 1), ALL / 2);
        idle(middle, x -> x.odds(2, 2, 1), ALL / 2);
        idle(middle, x -> x.odds(1, 4, 2), ALL / 2 * ALL);
        Maker end = () -> {
            TwoHousesBehind x = line(3, 1);
            x.put(2);
            return x;
        };
        idle(end, x -> x.odds(1, 4, 1), ALL);
        idle(end, x -> x.odds(0, 2, 2), ALL * (ALL / 2));
    }

    static void promise34_ofAllOpenWaysAlike1To12() {
        for (int v = 1; v <= 12; v++) {
            int ways = v;
            Maker maker = () -> {
                TwoHousesBehind x = bare();
                for (int house = 0; house < 3; house++) {
                    x.house(0, 1 << house, 0);
                }
                for (int way = 0; way < ways; way++) {
                    x.way(0, way == 0 ? 1 : 2, 60 - way);
                }
                x.lag(1);
                x.put(0);
                return x;
            };
            idle(maker, x -> x.odds(1, 1, 1), ALL / ways);
            idle(maker, x -> x.odds(2, 1, 1), ALL / ways * (ways - 1));
        }
        Maker all = () -> {
            TwoHousesBehind x = line(2, 1);
            for (int way = 1; way < 12; way++) {
                x.way(0, 1, 1);
            }
            x.put(0);
            return x;
        };
        idle(all, x -> x.odds(1, 1, 1), ALL);
        idle(all, x -> x.odds(1, 1, 4), ALL * ALL * ALL * ALL);
        idle(() -> {
            TwoHousesBehind x = all.make();
            x.shut(11, true);
            return x;
        }, x -> x.odds(1, 1, 4), ALL * ALL * ALL * ALL);
    }

    static void promise34_fromAHouseWithoutAnyItGoesNowhereAnyMore() {
        Maker alone = () -> {
            TwoHousesBehind x = line(2, 1);
            x.put(0);
            x.shut(0, true);
            return x;
        };
        long all = 1;
        for (int v = 1; v <= 4; v++) {
            int k = v;
            all *= ALL;
            idle(alone, x -> x.odds(1, 0, k), all);
            idle(alone, x -> x.odds(1, 1, k), 0);
            idle(alone, x -> x.odds(0, 1, k), 0);
        }
    }

    // ---- promise 35: shuts

    static void promise35_minus1NoSuchHouse() {
        houses((x, house, set, k) -> x.shuts(house, set, k), 0);
    }

    static void promise35_minus6ASetBut0To255() {
        wrongSets((x, house, set, k) -> x.shuts(house, set, k), 0);
        idle(() -> line(3, 1), x -> x.shuts(2, 0, 4), 0);
        idle(() -> line(3, 1), x -> x.shuts(2, 255, 4), 1);
    }

    static void promise35_minus6TheBirdIsNowhere() {
        nowhereOrder((x, house, set, k) -> x.shuts(house, set, k), 0);
    }

    static void promise35_k1To4() {
        refused(() -> line(5, 1), x -> x.shuts(4, 8, LEAST), -6);
        refused(() -> line(5, 1), x -> x.shuts(4, 8, -1), -6);
        refused(() -> line(5, 1), x -> x.shuts(4, 8, 0), -6);
        idle(() -> line(5, 1), x -> x.shuts(2, 2, 1), 0);
        idle(() -> line(5, 1), x -> x.shuts(2, 2, 2), 1);
        idle(() -> line(5, 1), x -> x.shuts(4, 8, 3), 0);
        idle(() -> line(5, 1), x -> x.shuts(4, 8, 4), 1);
        refused(() -> line(5, 1), x -> x.shuts(4, 8, 5), -6);
        refused(() -> line(5, 1), x -> x.shuts(4, 8, MOST), -6);
    }

    static void promise35_anyOfASet() {
        idle(() -> line(5, 1), x -> x.shuts(4, 8 | 128, 4), 1);
        idle(() -> line(5, 1), x -> x.shuts(4, 255 - 8, 4), 0);
        // house 1 hears word 0 by way 0 back and forth, and word 2 by way 1
        Maker there = () -> {
            TwoHousesBehind x = line(3, 1);
            x.put(1);
            x.lag(1);
            return x;
        };
        idle(there, x -> x.shuts(1, 1, 2), 1);
        idle(there, x -> x.shuts(1, 4, 2), 2);
        idle(there, x -> x.shuts(1, 5, 2), 3);
    }

    private static Maker ways(int... ends) {
        return () -> {
            TwoHousesBehind x = bare();
            for (int house = 0; house < 4; house++) {
                x.house(0, 1 << house, 0);
            }
            for (int i = 0; i < ends.length; i += 2) {
                x.way(ends[i], ends[i + 1], 1);
            }
            x.put(0);
            x.lag(1);
            return x;
        };
    }

    static void promise35_theFewestOfSeveralTheLeast() {
        // two ways and then one: the one; one and then two, or one and one: the first
        idle(ways(0, 1, 0, 1, 1, 2), x -> x.shuts(2, 2, 2), 4);
        idle(ways(0, 1, 1, 2, 1, 2), x -> x.shuts(2, 2, 2), 1);
        idle(ways(0, 1, 1, 2), x -> x.shuts(2, 2, 2), 1);
        idle(ways(1, 2, 0, 1), x -> x.shuts(2, 2, 2), 1);
        idle(ways(1, 2, 1, 2, 0, 1, 0, 1), x -> x.shuts(2, 2, 2), 3);
    }

    static void promise35_ofOpenWays() {
        Maker maker = () -> {
            TwoHousesBehind x = ways(0, 1, 0, 1, 0, 1, 1, 2, 1, 2).make();
            x.shut(0, true);
            x.shut(3, true);
            return x;
        };
        idle(maker, x -> x.shuts(2, 2, 2), 16);
        idle(maker, x -> x.shuts(1, 2, 3), 0);
        idle(maker, x -> x.shuts(0, 2, 2), 6);
    }

    static void promise35_allWays() {
        for (int v = 0; v <= 12; v++) {
            int open = v;
            Maker maker = () -> {
                TwoHousesBehind x = line(2, 1);
                for (int way = 1; way < 12; way++) {
                    x.way(0, 1, way + 1);
                }
                for (int way = open; way < 12; way++) {
                    x.shut(way, true);
                }
                return x;
            };
            idle(maker, x -> x.shuts(0, 2, 4), (1 << open) - 1);
        }
    }

    // ---- promise 36: reach

    static void promise36_minus1NoSuchHouse() {
        houses((x, house, set, k) -> x.reach(house, k), 0);
    }

    static void promise36_minus6TheBirdIsNowhere() {
        nowhereOrder((x, house, set, k) -> x.reach(house, k), 0);
        refused(Edges::nowhere, x -> x.reach(0, 0), -6);
    }

    static void promise36_k0To6() {
        refused(() -> line(7, 1), x -> x.reach(6, LEAST), -6);
        refused(() -> line(7, 1), x -> x.reach(6, -1), -6);
        for (int v = 0; v <= 6; v++) {
            int k = v;
            idle(() -> line(7, 1), x -> x.reach(6, k), k < 6 ? 0 : 32);
            idle(() -> line(7, 1), x -> x.reach(2, k), k < 2 ? 0 : k < 4 ? 2 : 10);
        }
        refused(() -> line(7, 1), x -> x.reach(6, 7), -6);
        refused(() -> line(7, 1), x -> x.reach(6, MOST), -6);
    }

    static void promise36_inNoVisitsNothing() {
        Maker behind = () -> {
            TwoHousesBehind x = line(3, 1);
            x.put(0);
            return x;
        };
        idle(behind, x -> x.reach(0, 0), 0);
        idle(behind, x -> x.reach(1, 0), 0);
        idle(behind, x -> x.reach(1, 1), 1);
    }

    // ---- promise 37: first

    static void promise37_minus11NoSuchHouse() {
        houses((x, house, set, k) -> x.first(house, set), 10);
    }

    static void promise37_minus16ASetBut0To255() {
        wrongSets((x, house, set, k) -> x.first(house, set), 10);
        idle(() -> line(3, 1), x -> x.first(2, 255), NONE);
    }

    static void promise37_minus16TheBirdIsNowhere() {
        nowhereOrder((x, house, set, k) -> x.first(house, set), 10);
    }

    static void promise37_noneNotIn6() {
        for (int house = 2; house < 8; house++) {
            int there = house;
            // it hears word n less 1 first at the end of n visits
            idle(() -> line(8, 1), x -> x.first(there, 1 << (there - 1)), there <= 6 ? there : NONE);
        }
        idle(() -> line(8, 1), x -> x.first(7, 0), 0);
    }

    static void promise37_anEmptySetIsMetAtOnce() {
        idle(Edges::rich, x -> x.first(0, 0), 0);
        idle(Edges::rich, x -> x.first(6, 0), 0);
        idle(() -> line(1, 1), x -> x.first(0, 0), 0);
    }

    static void promise37_allOfASetOnOneRoute() {
        // a ring of eight, LAG 3: house 4 hears word 1 by one way round and word 7 by the other, not both in six
        Maker ring = () -> {
            TwoHousesBehind x = line(8, 3);
            x.way(7, 0, 1);
            return x;
        };
        idle(ring, x -> x.first(4, 2), 4);
        idle(ring, x -> x.first(4, 128), 4);
        idle(ring, x -> x.first(4, 130), NONE);
        idle(ring, x -> x.first(4, 10), 6);
        idle(ring, x -> x.reach(4, 6) & 138, 138);
    }
}
