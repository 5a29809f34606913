import java.util.ArrayList;
import java.util.Arrays;
import java.util.List;
import java.util.regex.Matcher;
import java.util.regex.Pattern;

/**
 * The document once more, written in the plainest way and without any thought of speed: every route is gone on a
 * copy of the whole street. The random runs of ModelTest compare it with the class.
 */
public final class Model {
    static final class House {
        int kind;
        int said;
        int a;
        int known;
        int visits;
    }

    static final class Way {
        int one;
        int other;
        int minutes;
        boolean shut;

        boolean joins(int a, int b) {
            return one == a && other == b || one == b && other == a;
        }
    }

    /** Everything that an image has. */
    static final class State {
        List<House> houses = new ArrayList<>();
        List<Way> ways = new ArrayList<>();
        int lag = 2;
        int bird = -1;
        /** All answers since BEHIND was emptied, the first one first. */
        List<Integer> answers = new ArrayList<>();
        int minutes;
        int visits;
        int seed = 1;

        State copy() {
            State copy = new State();
            for (House house : houses) {
                House like = new House();
                like.kind = house.kind;
                like.said = house.said;
                like.a = house.a;
                like.known = house.known;
                like.visits = house.visits;
                copy.houses.add(like);
            }
            for (Way way : ways) {
                Way like = new Way();
                like.one = way.one;
                like.other = way.other;
                like.minutes = way.minutes;
                like.shut = way.shut;
                copy.ways.add(like);
            }
            copy.lag = lag;
            copy.bird = bird;
            copy.answers.addAll(answers);
            copy.minutes = minutes;
            copy.visits = visits;
            copy.seed = seed;
            return copy;
        }

        int ago(int i) {
            return i < answers.size() ? answers.get(answers.size() - 1 - i) : 0;
        }

        int answer(int number, int spoken) {
            House house = houses.get(number);
            int rest = spoken != 0 ? house.said & ~house.a : house.said;
            if (house.kind == 0) {
                return house.said;
            } else if (house.kind == 1) {
                return 0;
            } else if (house.kind == 2) {
                return house.said | house.known;
            } else if (house.kind == 3) {
                return house.said | house.known | spoken;
            } else if (house.kind == 4) {
                return rest;
            } else if (house.kind == 5) {
                int turned = 0;
                for (int word = 0; word < 8; word++) {
                    if ((rest & 1 << word) != 0) {
                        turned |= 1 << (word == 7 ? 0 : word + 1);
                    }
                }
                return turned;
            }
            return house.visits < house.a ? 0 : house.said;
        }

        int visit(int number) {
            int spoken = ago(lag - 1);
            answers.add(answer(number, spoken));
            houses.get(number).known |= spoken;
            houses.get(number).visits++;
            bird = number;
            visits++;
            return spoken;
        }

        /** The way that a route takes; -1: none. */
        int best(int from, int to) {
            int best = -1;
            for (int w = 0; w < ways.size(); w++) {
                Way way = ways.get(w);
                if (!way.shut && way.joins(from, to) && (best < 0 || way.minutes < ways.get(best).minutes)) {
                    best = w;
                }
            }
            return best;
        }

        List<Integer> openAtBird() {
            List<Integer> open = new ArrayList<>();
            for (int w = 0; w < ways.size(); w++) {
                Way way = ways.get(w);
                if (!way.shut && (way.one == bird || way.other == bird)) {
                    open.add(w);
                }
            }
            return open;
        }

        void goBy(int w) {
            Way way = ways.get(w);
            minutes += way.minutes;
            visit(way.one == bird ? way.other : way.one);
        }
    }

    /** A route that was gone: its houses, what was spoken in each, its minutes. */
    static final class Gone {
        List<Integer> houses = new ArrayList<>();
        List<Integer> spoken = new ArrayList<>();
        int minutes;

        Gone and(int house, int words, int taken) {
            Gone further = new Gone();
            further.houses.addAll(houses);
            further.houses.add(house);
            further.spoken.addAll(spoken);
            further.spoken.add(words);
            further.minutes = minutes + taken;
            return further;
        }

        int heard(int house) {
            int heard = 0;
            for (int i = 0; i < houses.size(); i++) {
                if (houses.get(i) == house) {
                    heard |= spoken.get(i);
                }
            }
            return heard;
        }

        int end(int start) {
            return houses.isEmpty() ? start : houses.get(houses.size() - 1);
        }
    }

    private State now = new State();
    private State image;
    private final Object[] shelves = new Object[8];
    private final int[] refusals = new int[8];
    private final List<Integer> bodies = new ArrayList<>();
    private int faultAt = -1;

    static final class Row {
        int sort;
        long[] elements;
    }

    private int no(int number) {
        refusals[-number]++;
        return number;
    }

    private int no10(int number) {
        return no(number) - 10;
    }

    private boolean shelf(int s) {
        return s >= 0 && s < 8;
    }

    private boolean isHouse(int h) {
        return h >= 0 && h < now.houses.size();
    }

    private boolean isWay(int w) {
        return w >= 0 && w < now.ways.size();
    }

    private boolean isSet(int set) {
        return (set & 255) == set;
    }

    private int rowTrouble(int s) {
        return !shelf(s) ? -1 : shelves[s] instanceof Integer ? -2 : shelves[s] == null ? -3 : 0;
    }

    private Row rowIn(int s) {
        return (Row) shelves[s];
    }

    private int value(int s, int i) {
        return (int) rowIn(s).elements[i];
    }

    // shelves

    public int row(int s, int sort, int n) {
        if (!shelf(s)) return no(-1);
        if (n < 0) return no(-4);
        if (sort < 0 || sort > 3) return no(-6);
        if (n > 160) return no(-7);
        Row row = new Row();
        row.sort = sort;
        row.elements = new long[n];
        shelves[s] = row;
        return 1;
    }

    public int set(int s, int i, long v) {
        int t = rowTrouble(s);
        if (t != 0) return no(t);
        Row row = rowIn(s);
        if (i < 0 || i >= row.elements.length) return no(-5);
        int spare = new int[] {56, 48, 32, 0}[row.sort];
        row.elements[i] = v << spare >> spare;
        return 1;
    }

    public int copy(int p, int q, int i, int j, int n) {
        if (!shelf(p) || !shelf(q)) return no(-1);
        if (shelves[p] instanceof Integer || shelves[q] instanceof Integer) return no(-2);
        if (shelves[p] != null && shelves[q] != null && rowIn(p).sort != rowIn(q).sort) return no(-2);
        if (shelves[p] == null || shelves[q] == null) return no(-3);
        if (n < 0) return no(-4);
        if (i < 0 || j < 0) return no(-5);
        if ((long) i + n > rowIn(p).elements.length || (long) j + n > rowIn(q).elements.length) return no(-5);
        long[] taken = Arrays.copyOfRange(rowIn(p).elements, i, i + n);
        for (int e = 0; e < n; e++) rowIn(q).elements[j + e] = taken[e];
        return 1;
    }

    public long element(int s, int i) {
        if (rowTrouble(s) != 0 || i < 0 || i >= rowIn(s).elements.length) return 0;
        return rowIn(s).elements[i];
    }

    public int show(int s, int house) {
        if (!shelf(s) || house != -1 && !isHouse(house)) return no(-1);
        shelves[s] = house == -1 ? null : (Object) house;
        return house == -1 ? 0 : 1;
    }

    public int holds(int s) {
        if (!shelf(s) || shelves[s] == null) return -1;
        return shelves[s] instanceof Integer ? (Integer) shelves[s] : 100 + rowIn(s).sort;
    }

    public int says(int s, int kind) {
        if (!shelf(s) || kind < 0 || kind > 6) return no(-1);
        if (shelves[s] instanceof Row) return no(-2);
        if (shelves[s] == null) return no(-3);
        int number = (Integer) shelves[s];
        House house = now.houses.get(number);
        boolean is = kind == 0 || kind == house.kind || kind == 2 && house.kind == 3 || kind == 4 && house.kind == 5;
        if (!is) return no(-2);
        if (kind == 0) return now.answer(number, 3);
        if (kind == 1) return house.said;
        if (kind == 2 || kind == 3) return house.known;
        if (kind == 4 || kind == 5) return house.a;
        return house.a > house.visits ? house.a - house.visits : 0;
    }

    // the street

    public int house(int kind, int said, int a) {
        if (kind < 0 || kind > 6) return no(-1);
        if (!isSet(said) || a < 0 || a > 255) return no(-6);
        if (now.houses.size() == 8) return no(-7);
        return addHouse(now, kind, said, a);
    }

    private static int addHouse(State to, int kind, int said, int a) {
        House house = new House();
        house.kind = kind;
        house.said = said;
        house.a = a;
        to.houses.add(house);
        return to.houses.size() - 1;
    }

    private static int addWay(State to, int one, int other, int minutes) {
        Way way = new Way();
        way.one = one;
        way.other = other;
        way.minutes = minutes;
        to.ways.add(way);
        return to.ways.size() - 1;
    }

    private int wayTrouble(int house, int other, int minutes) {
        if (!isHouse(house) || !isHouse(other)) return -1;
        if (minutes < 1 || minutes > 60 || house == other) return -6;
        return now.ways.size() == 12 ? -7 : 0;
    }

    public int way(int house, int other, int minutes) {
        int t = wayTrouble(house, other, minutes);
        return t != 0 ? no(t) : addWay(now, house, other, minutes);
    }

    public int ways(int s, int i, int n) {
        int t = rowTrouble(s);
        if (t != 0) return no(t);
        if (n < 0) return no(-4);
        if (i < 0 || (long) i + n > rowIn(s).elements.length) return no(-5);
        if (n % 3 != 0) return no(-6);
        int came = 0;
        while (came * 3 < n) {
            int at = i + came * 3;
            if (wayTrouble(value(s, at), value(s, at + 1), value(s, at + 2)) != 0) break;
            addWay(now, value(s, at), value(s, at + 1), value(s, at + 2));
            came++;
        }
        return came;
    }

    public int shut(int way, boolean is) {
        if (!isWay(way)) return no(-1);
        boolean was = now.ways.get(way).shut;
        now.ways.get(way).shut = is;
        return was == is ? 0 : 1;
    }

    public int lag(int v) {
        if (v < 1 || v > 3) return no(-6);
        int was = now.lag;
        now.lag = v;
        now.answers.clear();
        return was;
    }

    public int said(int house, int set) {
        if (!isHouse(house)) return no(-1);
        if (!isSet(set)) return no(-6);
        int was = now.houses.get(house).said;
        now.houses.get(house).said = set;
        return was;
    }

    public int houseOf(int house, int what) {
        if (!isHouse(house) || what < 0 || what > 4) return no(-5);
        House h = now.houses.get(house);
        return new int[] {h.kind, h.said, h.a, h.known, h.visits}[what];
    }

    public int wayOf(int way, int what) {
        if (!isWay(way) || what < 0 || what > 3) return no(-5);
        Way w = now.ways.get(way);
        return new int[] {w.one, w.other, w.minutes, w.shut ? 1 : 0}[what];
    }

    public int street(int s) {
        int t = rowTrouble(s);
        if (t != 0) return no(t);
        StringBuilder text = new StringBuilder();
        for (long element : rowIn(s).elements) {
            int letter = (int) element;
            text.append(letter >= 1 && letter < 128 ? (char) letter : '?');
        }
        State told = now.copy();
        faultAt = tell(text.toString(), told);
        if (faultAt != -1) return no(-6);
        now = told;
        return text.toString().split(";").length;
    }

    private static final String ITEM =
        "(house \\d{1,3} \\d{1,3} \\d{1,3}|way \\d{1,3} \\d{1,3} \\d{1,3}|shut \\d{1,3}|lag \\d{1,3}|bird \\d{1,3})";
    private static final Pattern TEXT = Pattern.compile(ITEM + "(;" + ITEM + ")*");
    private static final Pattern TOKEN = Pattern.compile("[a-z]+|\\d+");

    /** The first place at which the letters alone can't go on. */
    private static int letterFault(String text) {
        for (int n = 1; n <= text.length(); n++) {
            Matcher matcher = TEXT.matcher(text.substring(0, n));
            if (!matcher.matches() && !matcher.hitEnd()) return n - 1;
        }
        return TEXT.matcher(text).matches() ? -1 : text.length();
    }

    /** The fault of a text, which is told to a state as far as it goes; -1: there is none. */
    private static int tell(String text, State to) {
        int letters = letterFault(text);
        String sound = letters < 0 ? text : text.substring(0, letters);
        int start = 0;
        for (String item : sound.split(";", -1)) {
            int fault = tellItem(item, to);
            if (fault >= 0) return start + fault;
            start += item.length() + 1;
        }
        return letters;
    }

    /** The fault of an item, that may be cut short, by its numbers and by room; an unbroken one is told. */
    private static int tellItem(String item, State to) {
        List<Integer> numbers = new ArrayList<>();
        Matcher matcher = TOKEN.matcher(item);
        char word = item.isEmpty() ? ' ' : item.charAt(0);
        if (word == 'h' && to.houses.size() == 8 || word == 'w' && to.ways.size() == 12) return 0;
        int most = to.houses.size() - 1;
        while (matcher.find()) {
            if (!Character.isDigit(matcher.group().charAt(0))) continue;
            int v = Integer.parseInt(matcher.group());
            int i = numbers.size();
            boolean can;
            if (word == 'h') can = v <= (i == 0 ? 6 : 255);
            else if (word == 'w') can = i == 2 ? v >= 1 && v <= 60 : v <= most && (i == 0 || v != numbers.get(0));
            else if (word == 's') can = v < to.ways.size();
            else if (word == 'l') can = v >= 1 && v <= 3;
            else can = v <= most;
            if (!can) return matcher.start();
            numbers.add(v);
        }
        int wanted = word == 'h' || word == 'w' ? 3 : 1;
        if (numbers.size() != wanted) return -1;
        if (word == 'h') addHouse(to, numbers.get(0), numbers.get(1), numbers.get(2));
        if (word == 'w') addWay(to, numbers.get(0), numbers.get(1), numbers.get(2));
        if (word == 's') to.ways.get(numbers.get(0)).shut = true;
        if (word == 'l') to.lag = numbers.get(0);
        if (word == 'b') to.bird = numbers.get(0);
        if (word == 'l' || word == 'b') to.answers.clear();
        return -1;
    }

    public int fault() {
        return faultAt;
    }

    // the bird

    public int put(int house) {
        return isHouse(house) ? now.visit(house) : no(-1);
    }

    public int go(int way) {
        if (!isWay(way)) return no(-1);
        if (!now.openAtBird().contains(way)) return no(-6);
        int spoken = next();
        now.goBy(way);
        return spoken;
    }

    public int where() {
        return now.bird;
    }

    public int next() {
        return now.ago(now.lag - 1);
    }

    public int behind(int i) {
        return i < 0 || i >= now.lag ? no(-5) : now.ago(i);
    }

    public int answer(int house, int set) {
        if (!isHouse(house)) return no(-1);
        return isSet(set) ? now.answer(house, set) : no(-6);
    }

    public int between(int house, int other) {
        if (!isHouse(house) || !isHouse(other)) return no10(-1);
        return now.best(house, other);
    }

    // told routes

    private int toldTrouble(int s, int n, int most) {
        int t = rowTrouble(s);
        if (t != 0) return t;
        if (n < 0) return -4;
        if (n > rowIn(s).elements.length) return -5;
        return n > most || now.bird < 0 ? -6 : 0;
    }

    /** Goes the first n elements on a copy; null: they are no route. */
    private Gone goTold(State copy, int s, int n) {
        Gone gone = new Gone();
        for (int i = 0; i < n; i++) {
            int to = value(s, i);
            int way = copy.best(copy.bird, to);
            if (way < 0) return null;
            gone = gone.and(to, copy.visit(to), copy.ways.get(way).minutes);
        }
        return gone;
    }

    public int judge(int s, int n) {
        int t = toldTrouble(s, n, 40);
        if (t != 0) return no(t);
        for (int i = 1; i <= n; i++) {
            if (goTold(now.copy(), s, i) == null) return i - 1;
        }
        return -1;
    }

    public int minutes(int s, int n) {
        int t = toldTrouble(s, n, 40);
        if (t != 0) return no(t);
        Gone gone = goTold(now.copy(), s, n);
        return gone == null ? no(-6) : gone.minutes;
    }

    public int hears(int s, int n, int house) {
        if (!isHouse(house)) return no(-1);
        int t = toldTrouble(s, n, 40);
        if (t != 0) return no(t);
        Gone gone = goTold(now.copy(), s, n);
        return gone == null ? no(-6) : gone.heard(house);
    }

    public int other(int s, int n, int lag) {
        int t = toldTrouble(s, n, 40);
        if (t != 0) return no(t);
        if (lag < 1 || lag > 3) return no(-6);
        State copy = now.copy();
        copy.lag = lag;
        copy.answers.clear();
        Gone gone = goTold(copy, s, n);
        if (gone == null) return no(-6);
        return n == 0 ? 0 : gone.spoken.get(n - 1);
    }

    // what can be

    /** All routes of k visits at most, the shorter ones first, those of one length by numbers. */
    private List<Gone> routes(State start, int k) {
        List<Gone> all = new ArrayList<>();
        List<State> states = new ArrayList<>();
        all.add(new Gone());
        states.add(start.copy());
        for (int at = 0; at < all.size(); at++) {
            if (all.get(at).houses.size() == k) continue;
            State state = states.get(at);
            for (int to = 0; to < 8; to++) {
                int way = state.best(state.bird, to);
                if (way < 0) continue;
                State further = state.copy();
                int spoken = further.visit(to);
                all.add(all.get(at).and(to, spoken, state.ways.get(way).minutes));
                states.add(further);
            }
            states.set(at, null);
        }
        return all;
    }

    private static int tellGone(Gone best, int what) {
        if (best == null) return -1;
        if (what == 0) return best.minutes;
        if (what == 1) return best.houses.size();
        return what - 2 < best.houses.size() ? best.houses.get(what - 2) : -1;
    }

    public int aim(int her, int him, int set, int k, int what) {
        if (!isHouse(her) || !isHouse(him)) return no10(-1);
        if (what < 0) return no10(-5);
        if (!isSet(set) || k < 1 || k > 6 || now.bird < 0) return no10(-6);
        Gone best = null;
        for (Gone gone : routes(now, k)) {
            boolean is = (gone.heard(her) & set) == set && (gone.heard(him) & set) == 0;
            if (is && (best == null || gone.minutes < best.minutes)) best = gone;
        }
        return tellGone(best, what);
    }

    public int round(int houses, int set, int k, int what) {
        if (what < 0) return no10(-5);
        if (houses < 0 || houses >> now.houses.size() != 0) return no10(-6);
        if (!isSet(set) || k < 1 || k > 6 || now.bird < 0) return no10(-6);
        Gone best = null;
        for (Gone gone : routes(now, k)) {
            boolean is = gone.end(now.bird) == now.bird;
            for (int house = 0; house < 8; house++) {
                if ((houses & 1 << house) != 0) is = is && (gone.heard(house) & set) == set;
            }
            if (is && (best == null || gone.minutes < best.minutes)) best = gone;
        }
        return tellGone(best, what);
    }

    private List<Gone> fitting(int s, int n) {
        List<Gone> fitting = new ArrayList<>();
        for (Gone gone : routes(now, n)) {
            boolean is = gone.houses.size() == n;
            for (int i = 0; i < n && is; i++) is = gone.spoken.get(i) == value(s, i);
            if (is) fitting.add(gone);
        }
        return fitting;
    }

    public int fits(int s, int n) {
        int t = toldTrouble(s, n, 6);
        return t != 0 ? no(t) : fitting(s, n).size();
    }

    public int from(int s, int n, int what) {
        int t = toldTrouble(s, n, 6);
        if (t != 0 && t != -6) return no(t);
        if (what < -1 || what >= n) return no(-5);
        if (t != 0) return no(t);
        List<Gone> fitting = fitting(s, n);
        if (what == -1) {
            int ends = 0;
            for (Gone gone : fitting) ends |= 1 << gone.end(now.bird);
            return ends;
        }
        return fitting.isEmpty() ? no(-5) : fitting.get(0).houses.get(what);
    }

    public long odds(int house, int set, int k) {
        if (!isHouse(house)) return no(-1);
        if (!isSet(set) || k < 1 || k > 4 || now.bird < 0) return no(-6);
        return odds(now, house, set, k, 0);
    }

    private long odds(State state, int house, int set, int k, int heard) {
        List<Integer> open = state.openAtBird();
        if (k == 0 || open.isEmpty()) {
            long rest = (heard & set) == set ? 1 : 0;
            for (int i = 0; i < k; i++) rest *= 27720;
            return rest;
        }
        long sum = 0;
        for (int way : open) {
            State further = state.copy();
            int spoken = further.ago(further.lag - 1);
            further.goBy(way);
            int all = further.bird == house ? heard | spoken : heard;
            sum += 27720 / open.size() * odds(further, house, set, k - 1, all);
        }
        return sum;
    }

    public int shuts(int house, int set, int k) {
        if (!isHouse(house)) return no(-1);
        if (!isSet(set) || k < 1 || k > 4 || now.bird < 0) return no(-6);
        int best = -1;
        for (int ways = 0; ways < 1 << now.ways.size(); ways++) {
            if (best >= 0 && Integer.bitCount(ways) >= Integer.bitCount(best)) continue;
            State state = now.copy();
            boolean open = true;
            for (int w = 0; w < now.ways.size(); w++) {
                if ((ways & 1 << w) != 0) {
                    open = open && !state.ways.get(w).shut;
                    state.ways.get(w).shut = true;
                }
            }
            if (!open) continue;
            boolean silent = true;
            for (Gone gone : routes(state, k)) silent = silent && (gone.heard(house) & set) == 0;
            if (silent) best = ways;
        }
        return best;
    }

    public int reach(int house, int k) {
        if (!isHouse(house)) return no(-1);
        if (k < 0 || k > 6 || now.bird < 0) return no(-6);
        int words = 0;
        for (Gone gone : routes(now, k)) words |= gone.heard(house);
        return words;
    }

    public int first(int house, int set) {
        if (!isHouse(house)) return no10(-1);
        if (!isSet(set) || now.bird < 0) return no10(-6);
        for (Gone gone : routes(now, 6)) {
            if ((gone.heard(house) & set) == set) return gone.houses.size();
        }
        return -1;
    }

    // the rest

    public int wander(int n) {
        if (n < 1 || n > 40 || now.bird < 0) return no(-6);
        int made = 0;
        for (; made < n; made++) {
            List<Integer> open = now.openAtBird();
            if (open.isEmpty()) break;
            now.seed = now.seed * 1103515245 + 12345;
            now.goBy(open.get((now.seed >> 16 & 0xffff) % open.size()));
        }
        return made;
    }

    public int who(int set) {
        if (!isSet(set)) return no(-6);
        int houses = 0;
        for (int h = 0; h < now.houses.size(); h++) {
            if ((now.houses.get(h).known & set) == set) houses |= 1 << h;
        }
        return houses;
    }

    public int forget() {
        int words = 0;
        for (House house : now.houses) {
            for (int word = 0; word < 8; word++) words += house.known >> word & 1;
            house.known = 0;
            house.visits = 0;
        }
        now.answers.clear();
        return words;
    }

    public int seed(int v) {
        int was = now.seed;
        now.seed = v;
        return was;
    }

    // Acts as the document has them: kinds as classes that go on to the class above.

    private class ActHouse {
        int m;
        int k;

        int calls(int x) {
            bodies.add(10);
            return x + m;
        }

        int hushes(int x) {
            bodies.add(11);
            return calls(x) * 2;
        }

        int opens(int x) {
            bodies.add(12);
            return hushes(x) ^ calls(x - k);
        }
    }

    private class ActQuiet extends ActHouse {
        @Override int calls(int x) {
            bodies.add(20);
            return super.calls(x) + k;
        }
    }

    private class ActEcho extends ActHouse {
        @Override int hushes(int x) {
            bodies.add(30);
            return super.hushes(x) * 3;
        }
    }

    private class ActGossip extends ActEcho {
        @Override int hushes(int x) {
            bodies.add(40);
            return super.hushes(x + 1);
        }

        @Override int opens(int x) {
            bodies.add(41);
            return super.opens(x) - m;
        }
    }

    private class ActShy extends ActHouse {
        @Override int opens(int x) {
            bodies.add(50);
            return -super.opens(x);
        }
    }

    private class ActTwist extends ActShy {
        @Override int opens(int x) {
            bodies.add(60);
            return super.opens(x) ^ 5;
        }
    }

    private class ActLate extends ActHouse {
        @Override int calls(int x) {
            bodies.add(70);
            return super.calls(x) * 2;
        }

        @Override int hushes(int x) {
            bodies.add(71);
            return super.hushes(x - k);
        }
    }

    public int act(int house, int act, int x) {
        bodies.clear();
        if (!isHouse(house) || act < 0 || act > 2) return 0;
        ActHouse actor = new ActHouse[] {new ActHouse(), new ActQuiet(), new ActEcho(), new ActGossip(),
            new ActShy(), new ActTwist(), new ActLate()}[now.houses.get(house).kind];
        actor.m = house;
        actor.k = now.houses.get(house).a;
        return act == 0 ? actor.calls(x) : act == 1 ? actor.hushes(x) : actor.opens(x);
    }

    public int trace(int i) {
        return i >= 0 && i < Math.min(20, bodies.size()) ? bodies.get(i) : -1;
    }

    public int image() {
        image = now.copy();
        return image.houses.size();
    }

    public int restore() {
        if (image == null) return no(-6);
        now = image.copy();
        for (int s = 0; s < 8; s++) {
            if (shelves[s] instanceof Integer && !isHouse((Integer) shelves[s])) shelves[s] = null;
        }
        return now.houses.size();
    }

    public int status(int what) {
        if (what == 2) {
            int shut = 0;
            for (Way way : now.ways) shut += way.shut ? 1 : 0;
            return shut;
        }
        if (what >= 11 && what <= 17) return refusals[what - 10];
        if (what < 0 || what > 7) return -1;
        return new int[] {now.houses.size(), now.ways.size(), 0, now.lag, now.minutes, now.visits, now.seed,
            bodies.size()}[what];
    }

    /** A route that can be gone from here, for rows that tell one. */
    Gone someRoute(java.util.Random random, int n) {
        State state = now.copy();
        Gone gone = new Gone();
        for (int i = 0; i < n && state.bird >= 0; i++) {
            List<Integer> open = state.openAtBird();
            if (open.isEmpty()) break;
            Way way = state.ways.get(open.get(random.nextInt(open.size())));
            int to = way.one == state.bird ? way.other : way.one;
            gone = gone.and(to, state.visit(to), way.minutes);
        }
        return gone;
    }
}
