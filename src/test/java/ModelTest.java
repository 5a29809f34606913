import java.lang.reflect.Method;
import java.lang.reflect.Modifier;
import java.util.ArrayList;
import java.util.Comparator;
import java.util.List;
import java.util.Random;

/** Random runs of calls, each on a new object and on a new Model: both are to answer alike. */
public final class ModelTest {
    private static final Checks CHECKS = new Checks("ModelTest");
    private static final int MOST_CALLS = 512;
    private static final String ALPHABET = "housewaylagbird shut0123456789;  ";

    private final Random random;
    private final String run;
    private final TwoHousesBehind x = new TwoHousesBehind();
    private final Model model = new Model();
    private final StringBuilder log = new StringBuilder();
    private int calls;
    private boolean alike = true;
    /** How many of a hundred numbers are just any. */
    private final int oddities;

    private ModelTest(long number) {
        random = new Random(number);
        run = "run " + number;
        oddities = number % 10 == 0 ? 40 : 4;
    }

    private static List<Method> face() {
        List<Method> face = new ArrayList<>();
        for (Method method : TwoHousesBehind.class.getDeclaredMethods()) {
            if (Modifier.isPublic(method.getModifiers())) {
                face.add(method);
            }
        }
        face.sort(Comparator.comparing(Method::getName));
        return face;
    }

    private static final List<Method> FACE = face();

    private long call(String name, Object... arguments) {
        for (Method method : FACE) {
            if (method.getName().equals(name)) {
                return call(method, arguments);
            }
        }
        throw new IllegalStateException(name);
    }

    private long call(Method method, Object... arguments) {
        if (calls >= MOST_CALLS || !alike) {
            return 0;
        }
        calls++;
        String told = method.getName() + java.util.Arrays.toString(arguments);
        try {
            long got = ((Number) method.invoke(x, arguments)).longValue();
            Method like = Model.class.getMethod(method.getName(), method.getParameterTypes());
            long due = ((Number) like.invoke(model, arguments)).longValue();
            log.append(told).append(" = ").append(got).append('\n');
            alike = got == due;
            CHECKS.due(run + " call " + calls + ": " + told, got, due);
            if (!alike) {
                System.out.println(log);
            }
            return got;
        } catch (ReflectiveOperationException e) {
            alike = false;
            CHECKS.holds(run + ": " + told + " ends without " + e.getCause(), false);
            return 0;
        }
    }

    private boolean chance(int percent) {
        return random.nextInt(100) < percent;
    }

    private int between(int least, int most) {
        return least + random.nextInt(most - least + 1);
    }

    private int odd() {
        int[] odd = {-1, -2, 256, 255, 161, 160, Integer.MAX_VALUE, Integer.MIN_VALUE, 7, 8, 12, 41, 61, -160};
        return odd[random.nextInt(odd.length)];
    }

    private int number(int least, int most) {
        return !chance(oddities) ? between(least, Math.max(least, most)) : chance(50) ? most + 1 : odd();
    }

    private int aHouse() {
        return number(0, model.status(0) - 1);
    }

    private int aSet() {
        return chance(50) ? number(0, 255) & between(0, 255) : number(1, 3);
    }

    private int aWay() {
        if (chance(70) && model.where() >= 0) {
            for (int i = 0; i < 20; i++) {
                int way = random.nextInt(12);
                boolean is = way < model.status(1)
                    && (model.wayOf(way, 0) == model.where() || model.wayOf(way, 1) == model.where());
                if (is) {
                    return way;
                }
            }
        }
        return number(0, model.status(1) - 1);
    }

    private Object[] argumentsFor(String name) {
        int s = number(0, 3);
        switch (name) {
            case "row": return new Object[] {s, number(0, 3), chance(90) ? number(0, 12) : number(150, 160)};
            case "set": return new Object[] {s, number(0, 8), chance(50) ? random.nextLong() : random.nextInt(300)};
            case "copy": return new Object[] {s, number(0, 3), number(0, 6), number(0, 6), number(0, 6)};
            case "element": return new Object[] {s, number(0, 12)};
            case "show": return new Object[] {number(2, 7), chance(80) ? aHouse() : -1};
            case "holds": return new Object[] {number(0, 7)};
            case "says": return new Object[] {number(2, 7), number(0, 6)};
            case "house": return new Object[] {number(0, 6), aSet(), chance(70) ? number(0, 3) : number(0, 255)};
            case "way": return new Object[] {aHouse(), aHouse(), chance(70) ? number(1, 5) : number(1, 60)};
            case "ways": return new Object[] {s, number(0, 2), 3 * number(0, 3) + (chance(5) ? 1 : 0)};
            case "shut": return new Object[] {chance(50) ? aWay() : number(0, 11), chance(40)};
            case "lag": return new Object[] {number(1, 3)};
            case "said": return new Object[] {aHouse(), aSet()};
            case "houseOf": return new Object[] {aHouse(), number(0, 4)};
            case "wayOf": return new Object[] {number(0, model.status(1) - 1), number(0, 3)};
            case "street": return new Object[] {s};
            case "put": return new Object[] {aHouse()};
            case "go": return new Object[] {aWay()};
            case "behind": return new Object[] {number(0, 2)};
            case "answer": return new Object[] {aHouse(), aSet()};
            case "between": return new Object[] {aHouse(), aHouse()};
            case "judge": case "minutes": case "fits": return new Object[] {s, number(0, 6)};
            case "hears": return new Object[] {s, number(0, 6), aHouse()};
            case "other": return new Object[] {s, number(0, 6), number(1, 3)};
            case "aim": return new Object[] {aHouse(), aHouse(), aSet(), number(1, 6), number(0, 8)};
            case "round": return new Object[] {chance(80) ? number(0, 255) & number(0, 255) : number(0, 3), aSet(),
                number(1, 6), number(0, 8)};
            case "from": return new Object[] {s, number(0, 6), number(-1, 5)};
            case "odds": case "shuts": return new Object[] {aHouse(), aSet(), number(1, 4)};
            case "reach": return new Object[] {aHouse(), number(0, 6)};
            case "first": return new Object[] {aHouse(), aSet()};
            case "wander": return new Object[] {chance(80) ? number(1, 4) : number(1, 40)};
            case "who": return new Object[] {aSet()};
            case "seed": return new Object[] {random.nextInt()};
            case "act": return new Object[] {aHouse(), number(0, 2), chance(50) ? random.nextInt() : number(-9, 9)};
            case "trace": return new Object[] {number(0, 8)};
            case "status": return new Object[] {number(0, 18)};
            default: return new Object[0];
        }
    }

    private static Object[] fitted(Method method, Object[] arguments) {
        for (int i = 0; i < arguments.length; i++) {
            if (method.getParameterTypes()[i] == long.class) {
                arguments[i] = ((Number) arguments[i]).longValue();
            }
        }
        return arguments;
    }

    private String item() {
        int houses = model.status(0);
        switch (between(0, 6)) {
            case 0: case 1: return "house " + number(0, 6) + " " + number(0, 255) + " " + number(0, 4);
            case 2: case 3:
                return "way " + number(0, houses) + " " + number(0, houses) + (chance(5) ? " 0" : " ") + number(1, 60);
            case 4: return "shut " + number(0, model.status(1) - 1);
            case 5: return "lag " + (chance(20) ? "0" : "") + number(1, 3);
            default: return "bird " + number(0, houses - 1);
        }
    }

    private void tellText() {
        StringBuilder text = new StringBuilder(item());
        for (int i = random.nextInt(4); i > 0; i--) {
            text.append(';').append(item());
        }
        for (int i = chance(40) ? between(1, 2) : 0; i > 0; i--) {
            int at = random.nextInt(text.length());
            char letter = ALPHABET.charAt(random.nextInt(ALPHABET.length()));
            switch (between(0, 3)) {
                case 0: text.setCharAt(at, letter); break;
                case 1: text.insert(at, letter); break;
                case 2: text.setLength(Math.max(1, at)); break;
                default: text.deleteCharAt(at); break;
            }
            if (text.length() == 0) {
                text.append('h');
            }
        }
        long[] letters = new long[Math.min(160, text.length())];
        for (int i = 0; i < letters.length; i++) {
            letters[i] = text.charAt(i);
        }
        fill(0, between(0, 3), letters);
        call("street", 0);
        call("fault");
    }

    private void fill(int s, int sort, long... elements) {
        call("row", s, sort, elements.length);
        for (int i = 0; i < elements.length; i++) {
            call("set", s, i, elements[i]);
        }
    }

    private void tellRoute() {
        Model.Gone gone = model.someRoute(random, chance(80) ? between(1, 6) : between(7, 40));
        int n = gone.houses.size();
        long[] houses = new long[n];
        for (int i = 0; i < n; i++) {
            houses[i] = gone.houses.get(i);
        }
        if (n > 0 && chance(20)) {
            houses[random.nextInt(n)] = number(-1, 8);
        }
        fill(1, between(0, 3), houses);
        call("judge", 1, n);
        call("minutes", 1, n);
        for (int house = 0; house < model.status(0); house++) {
            call("hears", 1, n, house);
        }
        call("other", 1, n, between(1, 3));
    }

    private void tellSpoken() {
        Model.Gone gone = model.someRoute(random, between(1, 6));
        int n = gone.spoken.size();
        long[] spoken = new long[n];
        for (int i = 0; i < n; i++) {
            spoken[i] = gone.spoken.get(i);
        }
        fill(1, between(1, 3), spoken);
        call("fits", 1, n);
        for (int what = -1; what <= n; what++) {
            call("from", 1, n, what);
        }
    }

    private void askWhole(String name) {
        for (Method method : FACE) {
            if (method.getName().equals(name)) {
                Object[] arguments = argumentsFor(name);
                for (int what = 0; what < 9; what++) {
                    arguments[arguments.length - 1] = what;
                    call(method, arguments.clone());
                }
            }
        }
    }

    /** All that can be asked without changing it. */
    private void compareState() {
        for (int house = 0; house < model.status(0); house++) {
            for (int what = 0; what < 5; what++) {
                call("houseOf", house, what);
            }
        }
        for (int way = 0; way < model.status(1); way++) {
            for (int what = 0; what < 4; what++) {
                call("wayOf", way, what);
            }
        }
        for (int i = 0; i < 8; i++) {
            call("holds", i);
            call("trace", i);
            call("status", i);
            call("status", i + 10);
        }
        for (int i = 0; i < model.status(3); i++) {
            call("behind", i);
        }
        for (String name : new String[] {"where", "next", "fault"}) {
            call(name);
        }
    }

    private void run(int most) {
        if (chance(85)) {
            for (int i = between(1, 8); i > 0; i--) {
                call("house", between(0, 6), between(0, 255) & between(0, 255), between(0, 4));
            }
            for (int i = between(0, 12); i > 0; i--) {
                call("way", aHouse(), aHouse(), number(1, 6));
            }
            call("lag", between(1, 3));
            call("put", aHouse());
        }
        while (calls < most && alike) {
            int pick = random.nextInt(100);
            if (pick < 3) {
                tellText();
            } else if (pick < 6) {
                tellRoute();
            } else if (pick < 8) {
                tellSpoken();
            } else if (pick < 10) {
                askWhole(chance(50) ? "aim" : "round");
            } else {
                Method method = FACE.get(random.nextInt(FACE.size()));
                boolean rarely = method.getName().equals("restore") || method.getName().equals("forget");
                if (!rarely || chance(30)) {
                    call(method, fitted(method, argumentsFor(method.getName())));
                }
            }
        }
        compareState();
    }

    public static void main(String[] arguments) {
        int runs = arguments.length > 0 ? Integer.parseInt(arguments[0]) : 400;
        long first = arguments.length > 1 ? Long.parseLong(arguments[1]) : 1;
        for (long number = first; number < first + runs; number++) {
            new ModelTest(number).run(350);
        }
        CHECKS.end();
    }
}
