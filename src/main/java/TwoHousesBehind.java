/**
 * A parrot that says in each house what was said in the house it was in some visits ahead.
 * The document of the project tells what each call answers; README.md tells how this file is laid out.
 */
public final class TwoHousesBehind {
    public static final int NONE = -1;

    private static final int NOBODY = -1;
    private static final int OTHER = -2;
    private static final int NOTHING = -3;
    private static final int BELOW = -4;
    private static final int BEYOND = -5;
    private static final int WRONG = -6;
    private static final int ROOM = -7;
    private static final int REFUSAL_SORTS = 7;
    /** Where NONE is an answer of its own, a refusal is told this much lower. */
    private static final int APART = 10;

    private static final int MOST_TOLD_VISITS = 40;
    private static final int MOST_VISITS = 6;
    private static final int MOST_VISITS_BY_WAYS = 4;
    private static final int MOST_WANDERED = 40;
    private static final int WORDS_0_AND_1 = 3;

    private final Street street;
    private final Street image;
    private final Street draft;
    private final Shelves shelves;
    private final Acts acts;
    private final Walk walk;
    private final Search search;
    private final Reader reader;
    private final Cells refusals;
    private int latestFault;
    private boolean imageTaken;

    public TwoHousesBehind() {
        street = new Street();
        image = new Street();
        draft = new Street();
        shelves = new Shelves();
        acts = new Acts();
        walk = new Walk(street);
        search = new Search(street, walk);
        reader = new Reader(shelves, draft);
        refusals = new Cells(REFUSAL_SORTS + 1);
        latestFault = NONE;
        imageTaken = false;
    }

    // ---- refusals

    private int refuse(int trouble) {
        refusals.keep(-trouble, refusals.get(-trouble) + 1);
        return trouble;
    }

    private int refuseApart(int trouble) {
        return refuse(trouble) - APART;
    }

    private static boolean isCount(int k, int least, int most) {
        return k >= least && k <= most;
    }

    private static boolean isSet(int set) {
        return set >= 0 && set <= Street.ALL_WORDS;
    }

    private static boolean isLag(int v) {
        return isCount(v, 1, Street.MOST_LAG);
    }

    /** What is wrong with telling of the first n elements of a row as of a route of so many visits at most. */
    private int troubleWithRoute(int s, int n, int most) {
        int trouble = shelves.troubleWithStart(s, n);
        if (trouble != 0) {
            return trouble;
        }
        return n > most || !street.hasBird() ? WRONG : 0;
    }

    private int troubleInThought(int house, int set, boolean counted) {
        if (!street.isHouse(house)) {
            return NOBODY;
        }
        return isSet(set) && counted && street.hasBird() ? 0 : WRONG;
    }

    // ---- shelves

    public int row(int s, int sort, int n) {
        if (!shelves.isShelf(s)) {
            return refuse(NOBODY);
        }
        if (n < 0) {
            return refuse(BELOW);
        }
        if (!shelves.isSort(sort)) {
            return refuse(WRONG);
        }
        if (n > Shelves.MOST_ELEMENTS) {
            return refuse(ROOM);
        }
        shelves.holdRow(s, sort, n);
        return 1;
    }

    public int set(int s, int i, long v) {
        int trouble = shelves.troubleWithRow(s);
        if (trouble == 0 && !shelves.hasElement(s, i)) {
            trouble = BEYOND;
        }
        if (trouble != 0) {
            return refuse(trouble);
        }
        shelves.keepElement(s, i, v);
        return 1;
    }

    public int copy(int p, int q, int i, int j, int n) {
        int trouble = shelves.troubleWithTwoRows(p, q);
        if (trouble == 0 && n < 0) {
            trouble = BELOW;
        }
        if (trouble == 0 && !(shelves.hasElements(p, i, n) && shelves.hasElements(q, j, n))) {
            trouble = BEYOND;
        }
        if (trouble != 0) {
            return refuse(trouble);
        }
        shelves.moveElements(p, q, i, j, n);
        return 1;
    }

    public long element(int s, int i) {
        return shelves.elementAt(s, i);
    }

    public int show(int s, int house) {
        if (!shelves.isShelf(s) || (house != NONE && !street.isHouse(house))) {
            return refuse(NOBODY);
        }
        shelves.holdHouse(s, house);
        return house == NONE ? 0 : 1;
    }

    public int holds(int s) {
        return shelves.holding(s);
    }

    public int says(int s, int kind) {
        int trouble = Kinds.isKind(kind) ? shelves.troubleWithHouse(s) : NOBODY;
        int house = shelves.holding(s);
        if (trouble == 0 && !Kinds.isUnder(street.ofHouse(house, Street.KIND), kind)) {
            trouble = OTHER;
        }
        return trouble == 0 ? street.saysAs(house, kind, WORDS_0_AND_1) : refuse(trouble);
    }

    // ---- the street

    public int house(int kind, int said, int a) {
        if (!Kinds.isKind(kind)) {
            return refuse(NOBODY);
        }
        if (!isSet(said) || a < 0 || a > Street.MOST_A) {
            return refuse(WRONG);
        }
        return street.hasRoomForHouse() ? street.addHouse(kind, said, a) : refuse(ROOM);
    }

    private int troubleWithWay(int house, int other, int minutes) {
        if (!street.isHouse(house) || !street.isHouse(other)) {
            return NOBODY;
        }
        if (house == other || minutes < 1 || minutes > Street.MOST_MINUTES) {
            return WRONG;
        }
        return street.hasRoomForWay() ? 0 : ROOM;
    }

    public int way(int house, int other, int minutes) {
        int trouble = troubleWithWay(house, other, minutes);
        return trouble == 0 ? street.addWay(house, other, minutes) : refuse(trouble);
    }

    public int ways(int s, int i, int n) {
        int trouble = shelves.troubleWithRow(s);
        if (trouble == 0 && n < 0) {
            trouble = BELOW;
        }
        if (trouble == 0 && !shelves.hasElements(s, i, n)) {
            trouble = BEYOND;
        }
        if (trouble == 0 && n % 3 != 0) {
            trouble = WRONG;
        }
        return trouble == 0 ? addWays(s, i, n) : refuse(trouble);
    }

    private int addWays(int s, int i, int n) {
        int came = 0;
        for (int at = 0; at + 2 < n; at += 3) {
            int house = shelves.intAt(s, i + at);
            int other = shelves.intAt(s, i + at + 1);
            int minutes = shelves.intAt(s, i + at + 2);
            if (troubleWithWay(house, other, minutes) != 0) {
                return came;
            }
            street.addWay(house, other, minutes);
            came++;
        }
        return came;
    }

    public int shut(int way, boolean is) {
        if (!street.isWay(way)) {
            return refuse(NOBODY);
        }
        return street.changeShut(way, is) ? 1 : 0;
    }

    public int lag(int v) {
        if (!isLag(v)) {
            return refuse(WRONG);
        }
        int was = street.lagNow();
        street.changeLag(v);
        return was;
    }

    public int said(int house, int set) {
        if (!street.isHouse(house)) {
            return refuse(NOBODY);
        }
        if (!isSet(set)) {
            return refuse(WRONG);
        }
        int was = street.ofHouse(house, Street.SAID);
        street.changeSaid(house, set);
        return was;
    }

    public int houseOf(int house, int what) {
        boolean is = street.isHouse(house) && what >= 0 && what < Street.HOUSE_FACTS;
        return is ? street.ofHouse(house, what) : refuse(BEYOND);
    }

    public int wayOf(int way, int what) {
        boolean is = street.isWay(way) && what >= 0 && what < Street.WAY_FACTS;
        return is ? street.ofWay(way, what) : refuse(BEYOND);
    }

    public int street(int s) {
        int trouble = shelves.troubleWithRow(s);
        if (trouble != 0) {
            return refuse(trouble);
        }
        draft.becomeAs(street);
        int items = reader.readItems(s);
        latestFault = reader.faultFound();
        if (latestFault != NONE) {
            return refuse(WRONG);
        }
        street.becomeAs(draft);
        return items;
    }

    public int fault() {
        return latestFault;
    }

    // ---- the bird on its way

    public int put(int house) {
        return street.isHouse(house) ? street.visit(house) : refuse(NOBODY);
    }

    public int go(int way) {
        if (!street.isWay(way)) {
            return refuse(NOBODY);
        }
        return street.canGoBy(way) ? street.goBy(way) : refuse(WRONG);
    }

    public int where() {
        return street.birdAt();
    }

    public int next() {
        return street.spokenNext();
    }

    public int behind(int i) {
        return i >= 0 && i < street.lagNow() ? street.saidAgo(i) : refuse(BEYOND);
    }

    public int answer(int house, int set) {
        if (!street.isHouse(house)) {
            return refuse(NOBODY);
        }
        return isSet(set) ? street.answerAfter(house, set, 0, 0) : refuse(WRONG);
    }

    // ---- told routes

    public int between(int house, int other) {
        if (!street.isHouse(house) || !street.isHouse(other)) {
            return refuseApart(NOBODY);
        }
        walk.begin();
        return walk.wayTaken(house, other);
    }

    /** Walks a told route in thought: where it is none, NONE if it is one. */
    private int walkTold(int s, int n) {
        for (int i = 0; i < n; i++) {
            if (!walk.stepTo(shelves.intAt(s, i))) {
                return i;
            }
        }
        return NONE;
    }

    public int judge(int s, int n) {
        int trouble = troubleWithRoute(s, n, MOST_TOLD_VISITS);
        if (trouble != 0) {
            return refuse(trouble);
        }
        walk.begin();
        return walkTold(s, n);
    }

    public int minutes(int s, int n) {
        int trouble = troubleWithRoute(s, n, MOST_TOLD_VISITS);
        if (trouble != 0) {
            return refuse(trouble);
        }
        walk.begin();
        return walkTold(s, n) == NONE ? walk.minutesTaken() : refuse(WRONG);
    }

    public int hears(int s, int n, int house) {
        int trouble = street.isHouse(house) ? troubleWithRoute(s, n, MOST_TOLD_VISITS) : NOBODY;
        if (trouble != 0) {
            return refuse(trouble);
        }
        walk.begin();
        return walkTold(s, n) == NONE ? walk.heardBy(house) : refuse(WRONG);
    }

    public int other(int s, int n, int lag) {
        int trouble = troubleWithRoute(s, n, MOST_TOLD_VISITS);
        if (trouble == 0 && !isLag(lag)) {
            trouble = WRONG;
        }
        if (trouble != 0) {
            return refuse(trouble);
        }
        walk.beginAfresh(lag);
        return walkTold(s, n) == NONE ? walk.spokenAt(n - 1) : refuse(WRONG);
    }

    // ---- what can be

    public int aim(int her, int him, int set, int k, int what) {
        if (!street.isHouse(her) || !street.isHouse(him)) {
            return refuseApart(NOBODY);
        }
        int trouble = troubleInSeeking(set, k, what);
        return trouble == 0 ? search.quickest(1 << her, 1 << him, set, k, false).told(what) : refuseApart(trouble);
    }

    public int round(int houses, int set, int k, int what) {
        int trouble = troubleInSeeking(set, k, what);
        if (trouble == 0 && !street.isSetOfHouses(houses)) {
            trouble = WRONG;
        }
        return trouble == 0 ? search.quickest(houses, 0, set, k, true).told(what) : refuseApart(trouble);
    }

    private int troubleInSeeking(int set, int k, int what) {
        if (what < 0) {
            return BEYOND;
        }
        return isSet(set) && isCount(k, 1, MOST_VISITS) && street.hasBird() ? 0 : WRONG;
    }

    public int fits(int s, int n) {
        int trouble = troubleWithRoute(s, n, MOST_VISITS);
        if (trouble != 0) {
            return refuse(trouble);
        }
        search.fit(shelves, s, n);
        return search.countFound();
    }

    public int from(int s, int n, int what) {
        int trouble = shelves.troubleWithStart(s, n);
        if (trouble == 0 && (what < NONE || what >= n)) {
            trouble = BEYOND;
        }
        if (trouble == 0) {
            trouble = troubleWithRoute(s, n, MOST_VISITS);
        }
        if (trouble != 0) {
            return refuse(trouble);
        }
        search.fit(shelves, s, n);
        if (what == NONE) {
            return search.endsFound();
        }
        return search.countFound() > 0 ? search.houseFound(what) : refuse(BEYOND);
    }

    public long odds(int house, int set, int k) {
        int trouble = troubleInThought(house, set, isCount(k, 1, MOST_VISITS_BY_WAYS));
        return trouble == 0 ? search.oddsToHear(house, set, k) : refuse(trouble);
    }

    public int shuts(int house, int set, int k) {
        int trouble = troubleInThought(house, set, isCount(k, 1, MOST_VISITS_BY_WAYS));
        return trouble == 0 ? search.fewestToShut(house, set, k) : refuse(trouble);
    }

    public int reach(int house, int k) {
        int trouble = troubleInThought(house, 0, isCount(k, 0, MOST_VISITS));
        return trouble == 0 ? search.wordsInReach(house, k) : refuse(trouble);
    }

    public int first(int house, int set) {
        int trouble = troubleInThought(house, set, true);
        return trouble == 0 ? search.fewestVisits(house, set, MOST_VISITS) : refuseApart(trouble);
    }

    // ---- draws, memory, acts

    public int wander(int n) {
        if (!isCount(n, 1, MOST_WANDERED) || !street.hasBird()) {
            return refuse(WRONG);
        }
        for (int made = 0; made < n; made++) {
            int way = street.drawnWay();
            if (way == NONE) {
                return made;
            }
            street.goBy(way);
        }
        return n;
    }

    public int who(int set) {
        return isSet(set) ? street.knowing(set) : refuse(WRONG);
    }

    public int forget() {
        return street.forgetAll();
    }

    public int seed(int v) {
        int was = street.seedNow();
        street.changeSeed(v);
        return was;
    }

    public int act(int house, int act, int x) {
        acts.clearTrace();
        if (!street.isHouse(house)) {
            return 0;
        }
        return acts.perform(street.ofHouse(house, Street.KIND), house, street.ofHouse(house, Street.A), act, x);
    }

    public int trace(int i) {
        return acts.bodyAt(i);
    }

    public int image() {
        image.becomeAs(street);
        imageTaken = true;
        return image.houseCount();
    }

    public int restore() {
        if (!imageTaken) {
            return refuse(WRONG);
        }
        street.becomeAs(image);
        shelves.dropHousesFrom(street.houseCount());
        return street.houseCount();
    }

    public int status(int what) {
        if (what > APART && what <= APART + REFUSAL_SORTS) {
            return refusals.get(what - APART);
        }
        return what == 7 ? acts.howManyRan() : street.count(what);
    }

    /** Numbers that may be asked for at any place: where there is none stands 0, and nothing is kept there. */
    static final class Cells {
        private final int[] cells;

        Cells(int size) {
            cells = new int[size < 0 ? 0 : size];
        }

        int get(int i) {
            return i >= 0 && i < cells.length ? cells[i] : 0;
        }

        void keep(int i, int v) {
            if (i >= 0 && i < cells.length) {
                cells[i] = v;
            }
        }

        void becomeAs(Cells others) {
            for (int i = 0; i < cells.length; i++) {
                cells[i] = others.get(i);
            }
        }

        void clear() {
            for (int i = 0; i < cells.length; i++) {
                cells[i] = 0;
            }
        }
    }

    /** The kinds of houses. */
    static final class Kinds {
        static final int HOUSE = 0;
        static final int QUIET = 1;
        static final int ECHO = 2;
        static final int GOSSIP = 3;
        static final int SHY = 4;
        static final int TWIST = 5;
        static final int LATE = 6;

        private Kinds() {
        }

        static boolean isKind(int kind) {
            return kind >= HOUSE && kind <= LATE;
        }

        private static int above(int kind) {
            switch (kind) {
                case GOSSIP:
                    return ECHO;
                case TWIST:
                    return SHY;
                default:
                    return HOUSE;
            }
        }

        static boolean isUnder(int kind, int wanted) {
            return wanted == HOUSE || kind == wanted || above(kind) == wanted;
        }
    }

    /** All that an image is taken of: houses, ways, the bird and what is behind it, what has gone by, the seed. */
    static final class Street {
        static final int MOST_HOUSES = 8;
        static final int MOST_WAYS = 12;
        static final int MOST_LAG = 3;
        static final int MOST_MINUTES = 60;
        static final int MOST_A = 255;
        static final int ALL_WORDS = 255;
        // the facts stand in the order in which houseOf() and wayOf() number them
        static final int KIND = 0;
        static final int SAID = 1;
        static final int A = 2;
        static final int KNOWN = 3;
        static final int VISITS = 4;
        static final int HOUSE_FACTS = 5;
        static final int MINUTES = 2;
        static final int SHUT = 3;
        static final int WAY_FACTS = 4;

        private final Cells houseFacts;
        private final Cells wayFacts;
        private final Cells behindBird;
        private int houseNumber;
        private int wayNumber;
        private int birdLag;
        private int birdHouse;
        private int minutesGone;
        private int visitsMade;
        private int drawSeed;

        Street() {
            houseFacts = new Cells(MOST_HOUSES * HOUSE_FACTS);
            wayFacts = new Cells(MOST_WAYS * WAY_FACTS);
            behindBird = new Cells(MOST_LAG);
            birdLag = 2;
            birdHouse = NONE;
            drawSeed = 1;
        }

        void becomeAs(Street like) {
            houseFacts.becomeAs(like.houseFacts);
            wayFacts.becomeAs(like.wayFacts);
            behindBird.becomeAs(like.behindBird);
            houseNumber = like.houseNumber;
            wayNumber = like.wayNumber;
            birdLag = like.birdLag;
            birdHouse = like.birdHouse;
            minutesGone = like.minutesGone;
            visitsMade = like.visitsMade;
            drawSeed = like.drawSeed;
        }

        boolean isHouse(int house) {
            return house >= 0 && house < houseNumber;
        }

        boolean isSetOfHouses(int houses) {
            return houses >= 0 && houses < 1 << houseNumber;
        }

        boolean isWay(int way) {
            return way >= 0 && way < wayNumber;
        }

        boolean hasRoomForHouse() {
            return houseNumber < MOST_HOUSES;
        }

        boolean hasRoomForWay() {
            return wayNumber < MOST_WAYS;
        }

        boolean hasBird() {
            return birdHouse != NONE;
        }

        int houseCount() {
            return houseNumber;
        }

        int wayCount() {
            return wayNumber;
        }

        int lagNow() {
            return birdLag;
        }

        int birdAt() {
            return birdHouse;
        }

        int seedNow() {
            return drawSeed;
        }

        void changeSeed(int v) {
            drawSeed = v;
        }

        int ofHouse(int house, int what) {
            return houseFacts.get(house * HOUSE_FACTS + what);
        }

        private void keepOfHouse(int house, int what, int v) {
            houseFacts.keep(house * HOUSE_FACTS + what, v);
        }

        int ofWay(int way, int what) {
            return wayFacts.get(way * WAY_FACTS + what);
        }

        private void keepOfWay(int way, int what, int v) {
            wayFacts.keep(way * WAY_FACTS + what, v);
        }

        int addHouse(int kind, int said, int a) {
            int house = houseNumber;
            keepOfHouse(house, KIND, kind);
            keepOfHouse(house, SAID, said);
            keepOfHouse(house, A, a);
            keepOfHouse(house, KNOWN, 0);
            keepOfHouse(house, VISITS, 0);
            houseNumber++;
            return house;
        }

        int addWay(int house, int other, int minutes) {
            int way = wayNumber;
            keepOfWay(way, 0, house);
            keepOfWay(way, 1, other);
            keepOfWay(way, MINUTES, minutes);
            keepOfWay(way, SHUT, 0);
            wayNumber++;
            return way;
        }

        void changeSaid(int house, int said) {
            keepOfHouse(house, SAID, said);
        }

        /** False: it was so ahead. */
        boolean changeShut(int way, boolean is) {
            int shut = is ? 1 : 0;
            if (ofWay(way, SHUT) == shut) {
                return false;
            }
            keepOfWay(way, SHUT, shut);
            return true;
        }

        void changeLag(int v) {
            birdLag = v;
            behindBird.clear();
        }

        /** Without a visit, as a text tells of it. */
        void setBird(int house) {
            birdHouse = house;
            behindBird.clear();
        }

        int saidAgo(int visits) {
            return behindBird.get(visits);
        }

        int spokenNext() {
            return behindBird.get(birdLag - 1);
        }

        /** What a house answers after a walk in thought on which it heard words and was visited some times. */
        int answerAfter(int house, int spoken, int heard, int times) {
            int facts = house * HOUSE_FACTS;
            int said = houseFacts.get(facts + SAID);
            int a = houseFacts.get(facts + A);
            int known = houseFacts.get(facts + KNOWN) | heard;
            int shy = spoken == 0 ? said : said & ~a;
            switch (houseFacts.get(facts + KIND)) {
                case Kinds.QUIET:
                    return 0;
                case Kinds.ECHO:
                    return said | known;
                case Kinds.GOSSIP:
                    return said | known | spoken;
                case Kinds.SHY:
                    return shy;
                case Kinds.TWIST:
                    return (shy << 1 | shy >> 7) & ALL_WORDS;
                case Kinds.LATE:
                    return houseFacts.get(facts + VISITS) + times >= a ? said : 0;
                default:
                    return said;
            }
        }

        int saysAs(int house, int kind, int spoken) {
            switch (kind) {
                case Kinds.QUIET:
                    return ofHouse(house, SAID);
                case Kinds.ECHO:
                case Kinds.GOSSIP:
                    return ofHouse(house, KNOWN);
                case Kinds.SHY:
                case Kinds.TWIST:
                    return ofHouse(house, A);
                case Kinds.LATE:
                    return Math.max(0, ofHouse(house, A) - ofHouse(house, VISITS));
                default:
                    return answerAfter(house, spoken, 0, 0);
            }
        }

        int visit(int house) {
            int spoken = spokenNext();
            int answer = answerAfter(house, spoken, 0, 0);
            keepOfHouse(house, KNOWN, ofHouse(house, KNOWN) | spoken);
            keepOfHouse(house, VISITS, ofHouse(house, VISITS) + 1);
            for (int i = MOST_LAG - 1; i > 0; i--) {
                behindBird.keep(i, behindBird.get(i - 1));
            }
            behindBird.keep(0, answer);
            birdHouse = house;
            visitsMade++;
            return spoken;
        }

        boolean isOpen(int way) {
            return isWay(way) && ofWay(way, SHUT) == 0;
        }

        private boolean isOpenAt(int way, int house) {
            boolean at = ofWay(way, 0) == house || ofWay(way, 1) == house;
            return isWay(way) && at && ofWay(way, SHUT) == 0;
        }

        boolean canGoBy(int way) {
            return hasBird() && isOpenAt(way, birdHouse);
        }

        int goBy(int way) {
            minutesGone += ofWay(way, MINUTES);
            return visit(ofWay(way, 0) == birdHouse ? ofWay(way, 1) : ofWay(way, 0));
        }

        int openWays() {
            int open = 0;
            for (int way = 0; way < MOST_WAYS; way++) {
                if (isOpen(way)) {
                    open |= 1 << way;
                }
            }
            return open;
        }

        int openWaysAt(int house) {
            int open = 0;
            for (int way = 0; way < MOST_WAYS; way++) {
                if (isOpenAt(way, house)) {
                    open++;
                }
            }
            return open;
        }

        int openWaysBetween(int house, int other) {
            int open = 0;
            for (int way = 0; way < MOST_WAYS; way++) {
                if (isOpenAt(way, house) && isOpenAt(way, other)) {
                    open++;
                }
            }
            return open;
        }

        private int draw(int below) {
            drawSeed = drawSeed * 1103515245 + 12345;
            return below > 0 ? (drawSeed >>> 16) % below : 0;
        }

        int drawnWay() {
            int open = openWaysAt(birdHouse);
            if (open == 0) {
                return NONE;
            }
            int left = draw(open);
            for (int way = 0; way < MOST_WAYS; way++) {
                if (isOpenAt(way, birdHouse)) {
                    if (left == 0) {
                        return way;
                    }
                    left--;
                }
            }
            return NONE;
        }

        int knowing(int set) {
            int houses = 0;
            for (int house = 0; house < houseNumber; house++) {
                if ((set & ~ofHouse(house, KNOWN)) == 0) {
                    houses |= 1 << house;
                }
            }
            return houses;
        }

        int forgetAll() {
            int words = 0;
            for (int house = 0; house < houseNumber; house++) {
                words += Integer.bitCount(ofHouse(house, KNOWN));
                keepOfHouse(house, KNOWN, 0);
                keepOfHouse(house, VISITS, 0);
            }
            behindBird.clear();
            return words;
        }

        int count(int what) {
            switch (what) {
                case 0:
                    return houseNumber;
                case 1:
                    return wayNumber;
                case 2:
                    return wayNumber - Integer.bitCount(openWays());
                case 3:
                    return birdLag;
                case 4:
                    return minutesGone;
                case 5:
                    return visitsMade;
                case 6:
                    return drawSeed;
                default:
                    return NONE;
            }
        }
    }

    /** The shelves; all rows stand in one array, since no two shelves ever hold the same row. */
    static final class Shelves {
        static final int MOST_ELEMENTS = 160;
        private static final int SHELVES = 8;
        private static final int SORTS = 4;
        /** A holding from here on is a row: this and its sort, as holds() tells it. */
        private static final int ROWS = 100;

        private final long[] elements;
        private final Cells holdings;
        private final Cells sizes;

        Shelves() {
            elements = new long[SHELVES * MOST_ELEMENTS];
            holdings = new Cells(SHELVES);
            sizes = new Cells(SHELVES);
            for (int s = 0; s < SHELVES; s++) {
                holdings.keep(s, NONE);
            }
        }

        boolean isShelf(int s) {
            return s >= 0 && s < SHELVES;
        }

        boolean isSort(int sort) {
            return sort >= 0 && sort < SORTS;
        }

        int holding(int s) {
            return isShelf(s) ? holdings.get(s) : NONE;
        }

        private static boolean isRow(int held) {
            return held >= ROWS;
        }

        private static boolean isHouse(int held) {
            return held != NONE && !isRow(held);
        }

        /** 0 where no row is held. */
        int size(int s) {
            return sizes.get(s);
        }

        int troubleWithRow(int s) {
            return troubleWithTwoRows(s, s);
        }

        int troubleWithTwoRows(int p, int q) {
            if (!isShelf(p) || !isShelf(q)) {
                return NOBODY;
            }
            int heldByP = holdings.get(p);
            int heldByQ = holdings.get(q);
            if (isHouse(heldByP) || isHouse(heldByQ)) {
                return OTHER;
            }
            if (heldByP == NONE || heldByQ == NONE) {
                return NOTHING;
            }
            return heldByP == heldByQ ? 0 : OTHER;
        }

        int troubleWithHouse(int s) {
            if (!isShelf(s)) {
                return NOBODY;
            }
            int held = holdings.get(s);
            if (isRow(held)) {
                return OTHER;
            }
            return held == NONE ? NOTHING : 0;
        }

        /** What is wrong with taking the first n elements of the row in a shelf. */
        int troubleWithStart(int s, int n) {
            int trouble = troubleWithRow(s);
            if (trouble != 0) {
                return trouble;
            }
            if (n < 0) {
                return BELOW;
            }
            return n > sizes.get(s) ? BEYOND : 0;
        }

        boolean hasElement(int s, int i) {
            return i >= 0 && i < sizes.get(s);
        }

        boolean hasElements(int s, int i, int n) {
            int size = sizes.get(s);
            return n >= 0 && i >= 0 && i <= size && n <= size - i;
        }

        void holdRow(int s, int sort, int n) {
            holdings.keep(s, ROWS + sort);
            sizes.keep(s, n);
            for (int i = 0; i < n; i++) {
                keepElement(s, i, 0);
            }
        }

        void holdHouse(int s, int house) {
            holdings.keep(s, house);
            sizes.keep(s, 0);
        }

        void dropHousesFrom(int house) {
            for (int s = 0; s < SHELVES; s++) {
                if (isHouse(holdings.get(s)) && holdings.get(s) >= house) {
                    holdings.keep(s, NONE);
                }
            }
        }

        long elementAt(int s, int i) {
            int place = s * MOST_ELEMENTS + i;
            boolean is = hasElement(s, i) && place >= 0 && place < elements.length;
            return is ? elements[place] : 0;
        }

        int intAt(int s, int i) {
            return (int) elementAt(s, i);
        }

        void keepElement(int s, int i, long v) {
            int place = s * MOST_ELEMENTS + i;
            if (hasElement(s, i) && place >= 0 && place < elements.length) {
                elements[place] = lowestBits(holdings.get(s) - ROWS, v);
            }
        }

        private static long lowestBits(int sort, long v) {
            switch (sort) {
                case 0:
                    return (byte) v;
                case 1:
                    return (short) v;
                case 2:
                    return (int) v;
                default:
                    return v;
            }
        }

        void moveElements(int p, int q, int i, int j, int n) {
            int from = p * MOST_ELEMENTS + i;
            int to = q * MOST_ELEMENTS + j;
            boolean is = hasElements(p, i, n) && hasElements(q, j, n) && n >= 0 && from >= 0 && to >= 0;
            if (is && n <= elements.length - from && n <= elements.length - to) {
                System.arraycopy(elements, from, elements, to, n);
            }
        }
    }

    /** The acts of houses, and the trace of the latest one. */
    static final class Acts {
        private static final int KEPT = 20;

        private final Cells bodies;
        private int ran;
        private int ownKind;
        private int number;
        private int a;

        Acts() {
            bodies = new Cells(KEPT);
        }

        int howManyRan() {
            return ran;
        }

        int bodyAt(int i) {
            return i >= 0 && i < ran && i < KEPT ? bodies.get(i) : NONE;
        }

        void clearTrace() {
            ran = 0;
        }

        int perform(int kind, int house, int houseA, int act, int x) {
            ownKind = kind;
            number = house;
            a = houseA;
            switch (act) {
                case 0:
                    return calls(kind, x);
                case 1:
                    return hushes(kind, x);
                case 2:
                    return opens(kind, x);
                default:
                    return 0;
            }
        }

        private void begin(int body) {
            bodies.keep(ran, body);
            ran++;
        }

        // Each body goes on only to a kind above its own: the tree of kinds keeps these calls few.

        private int calls(int kind, int x) {
            switch (kind) {
                case Kinds.QUIET:
                    begin(20);
                    return calls(Kinds.HOUSE, x) + a;
                case Kinds.LATE:
                    begin(70);
                    return calls(Kinds.HOUSE, x) * 2;
                default:
                    begin(10);
                    return x + number;
            }
        }

        private int hushes(int kind, int x) {
            switch (kind) {
                case Kinds.ECHO:
                    begin(30);
                    return hushes(Kinds.HOUSE, x) * 3;
                case Kinds.GOSSIP:
                    begin(40);
                    return hushes(Kinds.ECHO, x + 1);
                case Kinds.LATE:
                    begin(71);
                    return hushes(Kinds.HOUSE, x - a);
                default:
                    begin(11);
                    return calls(ownKind, x) * 2;
            }
        }

        private int opens(int kind, int x) {
            switch (kind) {
                case Kinds.GOSSIP:
                    begin(41);
                    return opens(Kinds.HOUSE, x) - number;
                case Kinds.SHY:
                    begin(50);
                    return -opens(Kinds.HOUSE, x);
                case Kinds.TWIST:
                    begin(60);
                    return opens(Kinds.SHY, x) ^ 5;
                default:
                    begin(12);
                    int hushed = hushes(ownKind, x);
                    return hushed ^ calls(ownKind, x - a);
            }
        }
    }

    /** A route gone in thought: it keeps what it adds to how the street is, and leaves the street alone. */
    static final class Walk {
        private static final int WIDTH = Street.MOST_HOUSES;

        private final Street street;
        /** By two houses the way taken between them and 1, so that 0 is none. */
        private final Cells links;
        private final Cells places;
        private final Cells spoken;
        /** What is behind the bird as the walk begins (the longest ago first), then the answers on the walk. */
        private final Cells answers;
        private final Cells minutesSpent;
        private int length;
        private int walkLag;

        Walk(Street street) {
            this.street = street;
            links = new Cells(WIDTH * WIDTH);
            places = new Cells(MOST_TOLD_VISITS);
            spoken = new Cells(MOST_TOLD_VISITS);
            answers = new Cells(Street.MOST_LAG + MOST_TOLD_VISITS);
            minutesSpent = new Cells(MOST_TOLD_VISITS + 1);
        }

        void begin() {
            beginWithout(0);
        }

        /** As if some ways (bits) were shut, too. */
        void beginWithout(int shut) {
            length = 0;
            walkLag = street.lagNow();
            for (int i = 0; i < Street.MOST_LAG; i++) {
                answers.keep(Street.MOST_LAG - 1 - i, street.saidAgo(i));
            }
            links.clear();
            for (int way = 0; way < Street.MOST_WAYS; way++) {
                if (street.isOpen(way) && (shut >> way & 1) == 0) {
                    link(way, street.ofWay(way, 0), street.ofWay(way, 1));
                }
            }
        }

        /** As if nothing were behind the bird and it had another lag. */
        void beginAfresh(int lag) {
            begin();
            walkLag = lag;
            answers.clear();
        }

        private void link(int way, int house, int other) {
            int taken = wayTaken(house, other);
            if (taken == NONE || street.ofWay(way, Street.MINUTES) < street.ofWay(taken, Street.MINUTES)) {
                links.keep(house * WIDTH + other, way + 1);
                links.keep(other * WIDTH + house, way + 1);
            }
        }

        int wayTaken(int house, int other) {
            boolean are = street.isHouse(house) && street.isHouse(other);
            return are ? links.get(house * WIDTH + other) - 1 : NONE;
        }

        int visitsMade() {
            return length;
        }

        int placeAt(int i) {
            return i < 0 ? street.birdAt() : places.get(i);
        }

        int place() {
            return length > 0 ? places.get(length - 1) : street.birdAt();
        }

        int minutesTaken() {
            return minutesSpent.get(length);
        }

        int spokenAt(int i) {
            return spoken.get(i);
        }

        int heardBy(int house) {
            int heard = 0;
            for (int i = 0; i < length; i++) {
                if (places.get(i) == house) {
                    heard |= spoken.get(i);
                }
            }
            return heard;
        }

        private int visitsOf(int house) {
            int times = 0;
            for (int i = 0; i < length; i++) {
                if (places.get(i) == house) {
                    times++;
                }
            }
            return times;
        }

        /** False: no way that is open leads there. */
        boolean stepTo(int house) {
            int way = wayTaken(place(), house);
            if (way == NONE || length >= MOST_TOLD_VISITS) {
                return false;
            }
            int words = answers.get(Street.MOST_LAG + length - walkLag);
            spoken.keep(length, words);
            answers.keep(Street.MOST_LAG + length, street.answerAfter(house, words, heardBy(house), visitsOf(house)));
            minutesSpent.keep(length + 1, minutesSpent.get(length) + street.ofWay(way, Street.MINUTES));
            places.keep(length, house);
            length++;
            return true;
        }

        /**
         * Becomes the next route of so many visits at most: each comes right behind the routes that begin it,
         * those of one length come by numbers. False: there is no further one.
         */
        boolean becomeNext(int most) {
            int least = length < most ? 0 : WIDTH;
            for (int kept = length; kept >= 0; kept--) {
                length = kept;
                for (int house = least; house < WIDTH; house++) {
                    if (stepTo(house)) {
                        return true;
                    }
                }
                least = places.get(kept - 1) + 1;
            }
            return false;
        }
    }

    /** What can be, by going all routes in thought. */
    static final class Search {
        /** Far above what twelve ways leave open in six visits. */
        private static final int MOST_ROUTES = 1000000;
        private static final long ALL_ODDS = 27720;

        private final Street street;
        private final Walk walk;
        private final Cells houses;
        private int found;
        private int ends;
        private int minutes;
        private int visits;

        Search(Street street, Walk walk) {
            this.street = street;
            this.walk = walk;
            houses = new Cells(MOST_VISITS);
        }

        int countFound() {
            return found;
        }

        int endsFound() {
            return ends;
        }

        int houseFound(int i) {
            return houses.get(i);
        }

        private void keepRoute() {
            minutes = walk.minutesTaken();
            visits = walk.visitsMade();
            for (int i = 0; i < visits; i++) {
                houses.keep(i, walk.placeAt(i));
            }
        }

        private boolean hearsAll(int house, int set) {
            return (set & ~walk.heardBy(house)) == 0;
        }

        private boolean hearsAny(int house, int set) {
            return (set & walk.heardBy(house)) != 0;
        }

        private boolean isHeardBy(int hearers, int deaf, int set) {
            for (int house = 0; house < Street.MOST_HOUSES; house++) {
                if ((hearers >> house & 1) != 0 && !hearsAll(house, set)) {
                    return false;
                }
                if ((deaf >> house & 1) != 0 && hearsAny(house, set)) {
                    return false;
                }
            }
            return true;
        }

        private boolean isQuicker() {
            int taken = walk.minutesTaken();
            return found == 0 || taken < minutes || (taken == minutes && walk.visitsMade() < visits);
        }

        /** The quickest route by which all hearers (bits) hear all of a set, and those that are deaf to it none. */
        Search quickest(int hearers, int deaf, int set, int k, boolean back) {
            found = 0;
            walk.begin();
            boolean more = true;
            for (int i = 0; more && i < MOST_ROUTES; i++) {
                boolean ended = !back || walk.place() == street.birdAt();
                if (ended && isQuicker() && isHeardBy(hearers, deaf, set)) {
                    found++;
                    keepRoute();
                }
                more = walk.becomeNext(k);
            }
            return this;
        }

        /** Of the quickest route, as aim() and round() number it. */
        int told(int what) {
            if (found == 0) {
                return NONE;
            }
            switch (what) {
                case 0:
                    return minutes;
                case 1:
                    return visits;
                default:
                    return what >= 2 && what - 2 < visits ? houses.get(what - 2) : NONE;
            }
        }

        private boolean speaksAs(Shelves shelves, int s, int n) {
            for (int i = 0; i < n; i++) {
                if (walk.spokenAt(i) != shelves.intAt(s, i)) {
                    return false;
                }
            }
            return true;
        }

        void fit(Shelves shelves, int s, int n) {
            found = 0;
            ends = 0;
            walk.begin();
            boolean more = true;
            for (int i = 0; more && i < MOST_ROUTES; i++) {
                if (walk.visitsMade() == n && speaksAs(shelves, s, n)) {
                    if (found == 0) {
                        keepRoute();
                    }
                    found++;
                    ends |= 1 << walk.place();
                }
                more = walk.becomeNext(n);
            }
        }

        long oddsToHear(int house, int set, int k) {
            long sum = 0;
            walk.begin();
            boolean more = true;
            for (int i = 0; more && i < MOST_ROUTES; i++) {
                boolean ended = walk.visitsMade() == k || street.openWaysAt(walk.place()) == 0;
                if (ended && hearsAll(house, set)) {
                    sum += oddsOfWalk(k);
                }
                more = walk.becomeNext(k);
            }
            return sum;
        }

        /** Routes differ by houses, rows of ways by ways: each step counts for all ways between its two houses. */
        private long oddsOfWalk(int k) {
            long odds = 1;
            for (int i = 0; i < k; i++) {
                if (i < walk.visitsMade()) {
                    int from = walk.placeAt(i - 1);
                    int open = street.openWaysAt(from);
                    odds *= open > 0 ? street.openWaysBetween(from, walk.placeAt(i)) * (ALL_ODDS / open) : 0;
                } else {
                    odds *= ALL_ODDS;
                }
            }
            return odds;
        }

        private boolean isSilentWithout(int shut, int house, int set, int k) {
            walk.beginWithout(shut);
            boolean more = true;
            for (int i = 0; more && i < MOST_ROUTES; i++) {
                if (hearsAny(house, set)) {
                    return false;
                }
                more = walk.becomeNext(k);
            }
            return true;
        }

        int fewestToShut(int house, int set, int k) {
            int open = street.openWays();
            for (int size = 0; size <= Street.MOST_WAYS; size++) {
                for (int shut = 0; shut <= open; shut++) {
                    boolean is = (shut & ~open) == 0 && Integer.bitCount(shut) == size;
                    if (is && isSilentWithout(shut, house, set, k)) {
                        return shut;
                    }
                }
            }
            return open;
        }

        int wordsInReach(int house, int k) {
            int words = 0;
            walk.begin();
            boolean more = true;
            for (int i = 0; more && i < MOST_ROUTES; i++) {
                words |= walk.heardBy(house);
                more = walk.becomeNext(k);
            }
            return words;
        }

        int fewestVisits(int house, int set, int k) {
            int fewest = k + 1;
            walk.begin();
            boolean more = true;
            for (int i = 0; more && i < MOST_ROUTES; i++) {
                if (walk.visitsMade() < fewest && hearsAll(house, set)) {
                    fewest = walk.visitsMade();
                }
                more = walk.becomeNext(k);
            }
            return fewest <= k ? fewest : NONE;
        }
    }

    /** Reads a text into a draft of the street; the caller takes the draft over if no fault was found. */
    static final class Reader {
        private static final int MOST_DIGITS = 3;

        private final Shelves shelves;
        private final Street draft;
        /** The text; behind its end stand zeroes, which are no letters. */
        private final Cells letters;
        private int at;
        private int faultAt;

        Reader(Shelves shelves, Street draft) {
            this.shelves = shelves;
            this.draft = draft;
            letters = new Cells(Shelves.MOST_ELEMENTS);
            faultAt = NONE;
        }

        int faultFound() {
            return faultAt;
        }

        int readItems(int s) {
            int size = shelves.size(s);
            for (int i = 0; i < Shelves.MOST_ELEMENTS; i++) {
                letters.keep(i, shelves.intAt(s, i));
            }
            at = 0;
            faultAt = NONE;
            readItem();
            int items = 1;
            for (int i = 0; i < size && faultAt == NONE && at < size; i++) {
                readLetter(';');
                readItem();
                items++;
            }
            return items;
        }

        /** The first fault stands: what is read behind it can't change it. */
        private void fail(int place) {
            if (faultAt == NONE) {
                faultAt = place;
            }
        }

        private void readLetter(char letter) {
            if (faultAt == NONE && letters.get(at) == letter) {
                at++;
            } else {
                fail(at);
            }
        }

        private void readWord(String word, boolean hasRoom) {
            if (!hasRoom) {
                fail(at);
            }
            for (int i = 0; i < word.length(); i++) {
                readLetter(word.charAt(i));
            }
        }

        private boolean isDigit() {
            return letters.get(at) >= '0' && letters.get(at) <= '9';
        }

        private int readNumber(int least, int most, int unlike) {
            readLetter(' ');
            int start = at;
            int number = 0;
            for (int i = 0; i < MOST_DIGITS && faultAt == NONE && isDigit(); i++) {
                number = number * 10 + letters.get(at) - '0';
                at++;
            }
            if (at == start || number < least || number > most || number == unlike) {
                fail(start);
            }
            return number;
        }

        private void readItem() {
            if (faultAt != NONE) {
                return;
            }
            switch (letters.get(at)) {
                case 'h':
                    readHouse();
                    break;
                case 'w':
                    readWay();
                    break;
                case 's':
                    readShut();
                    break;
                case 'l':
                    readLag();
                    break;
                case 'b':
                    readBird();
                    break;
                default:
                    fail(at);
            }
        }

        private void readHouse() {
            readWord("house", draft.hasRoomForHouse());
            int kind = readNumber(Kinds.HOUSE, Kinds.LATE, NONE);
            int said = readNumber(0, Street.ALL_WORDS, NONE);
            int a = readNumber(0, Street.MOST_A, NONE);
            if (faultAt == NONE) {
                draft.addHouse(kind, said, a);
            }
        }

        private void readWay() {
            readWord("way", draft.hasRoomForWay());
            int house = readNumber(0, draft.houseCount() - 1, NONE);
            int other = readNumber(0, draft.houseCount() - 1, house);
            int minutes = readNumber(1, Street.MOST_MINUTES, NONE);
            if (faultAt == NONE) {
                draft.addWay(house, other, minutes);
            }
        }

        private void readShut() {
            readWord("shut", true);
            int way = readNumber(0, draft.wayCount() - 1, NONE);
            if (faultAt == NONE) {
                draft.changeShut(way, true);
            }
        }

        private void readLag() {
            readWord("lag", true);
            int lag = readNumber(1, Street.MOST_LAG, NONE);
            if (faultAt == NONE) {
                draft.changeLag(lag);
            }
        }

        private void readBird() {
            readWord("bird", true);
            int house = readNumber(0, draft.houseCount() - 1, NONE);
            if (faultAt == NONE) {
                draft.setBird(house);
            }
        }
    }
}
