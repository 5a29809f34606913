import java.lang.reflect.InvocationTargetException;
import java.lang.reflect.Method;
import java.lang.reflect.Modifier;
import java.util.ArrayList;
import java.util.Arrays;
import java.util.Comparator;
import java.util.List;

/**
 * What the tests of edges share. Each sentence of the document that names an edge has a method of its own, named
 * promiseN_.. by its promise; each call is made on an object of its own, so that none comes near 512 calls.
 */
abstract class Edges {
    static final int NONE = TwoHousesBehind.NONE;
    static final int MOST = Integer.MAX_VALUE;
    static final int LEAST = Integer.MIN_VALUE;

    private static String running = "";
    private static int made;
    private static int wrong;

    interface Call {
        long on(TwoHousesBehind x);
    }

    interface Maker {
        TwoHousesBehind make();
    }

    // ---- running

    /** Runs all promiseN_.. of a class; each promise from the first to the last must have one. */
    static void run(Class<?> tests, int first, int last) {
        List<Method> methods = new ArrayList<>();
        for (Method method : tests.getDeclaredMethods()) {
            if (method.getName().startsWith("promise") && Modifier.isStatic(method.getModifiers())) {
                methods.add(method);
            }
        }
        methods.sort(Comparator.comparing(Method::getName));
        boolean[] has = new boolean[last + 1];
        for (Method method : methods) {
            int number = Integer.parseInt(method.getName().replaceAll("promise(\\d+)_.*", "$1"));
            holds("the promise of " + method.getName() + " is one of these", number >= first && number <= last);
            has[number] = true;
            runOne(method);
        }
        running = tests.getName();
        for (int number = first; number <= last; number++) {
            holds("promise " + number + " has a test", has[number]);
        }
        System.out.println(running + ": " + methods.size() + " tests, " + made + " checks, " + wrong + " wrong");
        System.exit(wrong == 0 ? 0 : 1);
    }

    private static void runOne(Method method) {
        running = method.getName();
        int ahead = made;
        try {
            method.setAccessible(true);
            method.invoke(null);
        } catch (InvocationTargetException e) {
            e.getCause().printStackTrace(System.out);
            holds("it ends without " + e.getCause(), false);
        } catch (IllegalAccessException e) {
            holds("it can be run", false);
        }
        holds("it checks anything", made > ahead);
    }

    private static String place() {
        return StackWalker.getInstance().walk(frames -> frames
            .filter(frame -> frame.getMethodName().startsWith("promise")).findFirst()
            .map(frame -> "line " + frame.getLineNumber()).orElse(""));
    }

    static void holds(String what, boolean is) {
        made++;
        if (!is) {
            wrong++;
            System.out.println(running + ", " + place() + ": " + what + " doesn't hold");
        }
    }

    static void due(long got, long want) {
        made++;
        if (got != want) {
            wrong++;
            System.out.println(running + ", " + place() + ": answered " + got + ", due is " + want);
        }
    }

    static void dues(long[] got, long... want) {
        made++;
        if (!Arrays.equals(got, want)) {
            wrong++;
            System.out.println(running + ", " + place() + ": answered " + Arrays.toString(got) + ", due is "
                + Arrays.toString(want));
        }
    }

    // ---- calls, each on an object of its own

    /** A call that is not refused: its answer, and that no refusal is counted. The object is handed back. */
    static TwoHousesBehind answered(Maker maker, Call call, long want) {
        TwoHousesBehind x = maker.make();
        long[] ahead = refusals(x);
        due(call.on(x), want);
        dues(refusals(x), ahead);
        return x;
    }

    /** A call that is refused: its answer, one more refusal of its sort, and all else as without the call. */
    static void refused(Maker maker, Call call, long want) {
        refused(maker, call, want, maker.make().fault());
    }

    /** As above, but that the FAULT is another then. */
    static void refused(Maker maker, Call call, long want, int fault) {
        int sort = (int) (want < -10 ? -want - 10 : -want);
        TwoHousesBehind x = maker.make();
        TwoHousesBehind twin = maker.make();
        due(call.on(x), want);
        due(x.fault(), fault);
        long[] counts = refusals(twin);
        counts[sort - 1]++;
        dues(refusals(x), counts);
        List<String> left = stateOf(x);
        List<String> due = stateOf(twin);
        for (int i = 0; i < due.size(); i++) {
            holds("refused, and " + left.get(i) + " as it was: " + due.get(i), left.get(i).equals(due.get(i)));
        }
    }

    /** A call that changes nothing, refused or not: its answer, and all as without the call, refusals too. */
    static void idle(Maker maker, Call call, long want) {
        TwoHousesBehind x = maker.make();
        TwoHousesBehind twin = maker.make();
        due(call.on(x), want);
        dues(refusals(x), refusals(twin));
        due(x.fault(), twin.fault());
        List<String> left = stateOf(x);
        List<String> due = stateOf(twin);
        for (int i = 0; i < due.size(); i++) {
            holds("idle, and " + left.get(i) + " as it was: " + due.get(i), left.get(i).equals(due.get(i)));
        }
    }

    static long[] refusals(TwoHousesBehind x) {
        long[] counts = new long[7];
        for (int i = 0; i < 7; i++) {
            counts[i] = x.status(11 + i);
        }
        return counts;
    }

    // ---- all that can be seen of an object but refusals and the FAULT

    static List<String> stateOf(TwoHousesBehind x) {
        List<String> state = new ArrayList<>();
        state.add("status(7) " + x.status(7));
        for (int i = 0; i < 8; i++) {
            state.add("trace(" + i + ") " + x.trace(i));
        }
        addShelves(state, x);
        addStreet(state, x);
        // what the IMAGE has is seen by taking it back
        state.add("restore() " + x.restore());
        addStreet(state, x);
        for (int s = 0; s < 8; s++) {
            state.add("then holds(" + s + ") " + x.holds(s));
        }
        return state;
    }

    private static void addShelves(List<String> state, TwoHousesBehind x) {
        for (int s = 0; s < 8; s++) {
            int held = x.holds(s);
            state.add("holds(" + s + ") " + held);
            for (int i = 0; i < 6 && held >= 100; i++) {
                state.add("element(" + s + ", " + i + ") " + x.element(s, i));
            }
            // the size of a ROW is seen by how many elements may be taken from it
            for (int n = 4; n <= 7 && held >= 100; n++) {
                state.add("the size of " + s + " to " + n + ": " + x.copy(s, s, n, n, 0));
            }
        }
    }

    private static void addStreet(List<String> state, TwoHousesBehind x) {
        for (int what = 0; what <= 6; what++) {
            state.add("status(" + what + ") " + x.status(what));
        }
        state.add("where() " + x.where());
        state.add("next() " + x.next());
        for (int i = 0; i < x.status(3); i++) {
            state.add("behind(" + i + ") " + x.behind(i));
        }
        for (int house = 0; house < x.status(0); house++) {
            for (int what = 0; what < 5; what++) {
                state.add("houseOf(" + house + ", " + what + ") " + x.houseOf(house, what));
            }
        }
        for (int way = 0; way < x.status(1); way++) {
            for (int what = 0; what < 4; what++) {
                state.add("wayOf(" + way + ", " + what + ") " + x.wayOf(way, what));
            }
        }
    }

    // ---- objects

    static TwoHousesBehind bare() {
        return new TwoHousesBehind();
    }

    static void fill(TwoHousesBehind x, int s, int sort, long... elements) {
        x.row(s, sort, elements.length);
        for (int i = 0; i < elements.length; i++) {
            x.set(s, i, elements[i]);
        }
    }

    static void text(TwoHousesBehind x, int s, String text) {
        x.row(s, 0, text.length());
        for (int i = 0; i < text.length(); i++) {
            x.set(s, i, text.charAt(i));
        }
    }

    /** A street of houses that say one word each, word 0 in house 0 and so on, on a line; each way takes a minute. */
    static TwoHousesBehind line(int houses) {
        TwoHousesBehind x = new TwoHousesBehind();
        for (int house = 0; house < houses; house++) {
            x.house(0, 1 << house, 0);
        }
        for (int house = 1; house < houses; house++) {
            x.way(house - 1, house, 1);
        }
        return x;
    }

    /** As line(), the bird in house 0 with nothing behind it, and a lag. */
    static TwoHousesBehind line(int houses, int lag) {
        TwoHousesBehind x = line(houses);
        x.put(0);
        x.lag(lag);
        return x;
    }

    /**
     * A bit of all: a house of each kind, nine ways (2 and 5 shut), a bird in house 2 with three words behind it, an
     * IMAGE of less, a FAULT, a TRACE, one refusal of each sort. Shelves: 0 bytes, 1 shorts, 2 ints, 3 longs, 4 house
     * 2, 5 house 6 that is not in the IMAGE, 6 nothing, 7 a row of no ints.
     */
    static TwoHousesBehind rich() {
        TwoHousesBehind x = new TwoHousesBehind();
        for (int kind = 0; kind < 6; kind++) {
            x.house(kind, 1 << kind, 3);
        }
        for (int house = 0; house < 6; house++) {
            x.way(house, (house + 1) % 6, 5 + house);
        }
        x.lag(3);
        x.put(5);
        x.image();
        x.house(6, 64, 1);
        x.way(6, 0, 9);
        x.way(2, 6, 8);
        x.way(1, 2, 7);
        x.shut(2, true);
        x.shut(5, true);
        x.put(0);
        x.go(0);
        x.go(1);
        x.put(0);
        x.go(0);
        x.go(8);
        x.seed(77);
        text(x, 6, "lag");
        x.street(6);
        x.show(6, NONE);
        fill(x, 0, 0, 1, 0, 1, 2, 6);
        fill(x, 1, 1, 1, 300, 3);
        fill(x, 2, 2, 6, 2, 1, 0, 1, 2);
        fill(x, 3, 3, 1L << 40, 5, -1, 9);
        x.show(4, 2);
        x.show(5, 6);
        x.row(7, 2, 0);
        x.act(3, 2, 9);
        x.put(9);
        x.says(0, 0);
        x.says(6, 0);
        x.row(0, 0, -1);
        x.behind(5);
        x.who(-1);
        x.row(0, 0, 161);
        return x;
    }

    /** Eight houses, twelve ways. */
    static TwoHousesBehind full() {
        TwoHousesBehind x = line(8);
        for (int i = 7; i < 12; i++) {
            x.way(0, 7, 60);
        }
        x.put(0);
        x.show(4, 7);
        fill(x, 2, 2, 0, 1, 5);
        return x;
    }

    /** Three houses in a ring, and no bird. Shelf 2 has a row of seven ints that is a route from house 0. */
    static TwoHousesBehind nowhere() {
        TwoHousesBehind x = line(3);
        x.way(2, 0, 1);
        fill(x, 2, 2, 1, 2, 0, 1, 2, 0, 1);
        x.show(4, 0);
        return x;
    }

    // ---- what all calls refuse that tell of the first elements of a row

    interface Told {
        long by(TwoHousesBehind x, int s, int n);
    }

    /** A street of two houses, the bird in house 0; shelf 0 has a row of some size to and fro, 1 a house, 2 nothing. */
    static Maker toAndFro(int size) {
        return () -> {
            TwoHousesBehind x = line(2, 2);
            x.row(0, 0, size);
            for (int i = 0; i < size; i += 2) {
                x.set(0, i, 1);
            }
            x.show(1, 0);
            return x;
        };
    }

    static void shelves(Told told) {
        refused(Edges::rich, x -> told.by(x, -1, 0), -1);
        holds("shelf 0 is there", told.by(toAndFro(4).make(), 0, 0) >= NONE);
        holds("shelf 7 is there", told.by(rich(), 7, 0) >= NONE);
        refused(Edges::rich, x -> told.by(x, 8, 0), -1);
        refused(Edges::rich, x -> told.by(x, LEAST, 0), -1);
        refused(Edges::rich, x -> told.by(x, 4, 0), -2);
        refused(Edges::rich, x -> told.by(x, 5, 0), -2);
        refused(Edges::rich, x -> told.by(x, 6, 0), -3);
    }

    static void sizes(int most, Told told) {
        refused(Edges::rich, x -> told.by(x, 2, -1), -4);
        refused(Edges::rich, x -> told.by(x, 2, LEAST), -4);
        refused(toAndFro(5), x -> told.by(x, 0, 6), -5);
        refused(toAndFro(0), x -> told.by(x, 0, 1), -5);
        refused(toAndFro(most), x -> told.by(x, 0, most + 1), -5);
        refused(toAndFro(most), x -> told.by(x, 0, MOST), -5);
        refused(toAndFro(most + 1), x -> told.by(x, 0, most + 1), -6);
        refused(toAndFro(160), x -> told.by(x, 0, 160), -6);
        refused(toAndFro(160), x -> told.by(x, 0, 161), -5);
    }

    static void order(Told told) {
        refused(Edges::nowhere, x -> told.by(x, 8, -1), -1);
        refused(Edges::nowhere, x -> told.by(x, 4, -1), -2);
        refused(Edges::nowhere, x -> told.by(x, 6, -1), -3);
        refused(Edges::nowhere, x -> told.by(x, 2, -1), -4);
        refused(Edges::nowhere, x -> told.by(x, 2, 8), -5);
        refused(Edges::nowhere, x -> told.by(x, 2, 7), -6);
        refused(Edges::nowhere, x -> told.by(x, 2, 1), -6);
        refused(Edges::nowhere, x -> told.by(x, 2, 0), -6);
    }
}
