/** Walls, the names on them, and the crew that cleans: ../shared/DOC.md says what each call answers. */
public final class PaintedWalls {
    public static final int BAD = -1, FULL = -2, NONE = -3;

    private static final int NO_ROW = -9, NOTHING = -11, OUTSIDE = -12, OTHER = -13, BELOW_0 = -14, PARTED_BY_0 = -15;

    private static final int BUCKETS = 0, LURE = 1, SCRUB = 2, FEAR = 3, LAWS = 4;
    private static final int OLD = 0, GREY = 1, WAX = 2, GROUNDS = 3;
    private static final int NAME = 0, FRESH = 1, COVERED = 2, TEMPTED = 3, GROWN = 4, KEPT = 5, KINDS = 6;
    private static final int WALLS = 10, GONE = 10, NAMES = 8, HANDS = 10, MOST_SEEN = 9, MOST_SIZE = 99;
    private static final int FIRST_SEEN = 3, FIRST_SIZE = 5, FIRST_DRAW = 1;
    private static final int MOST_GLANCES = 99999, MOST_NIGHTS = 60, MOST_TRIED = 30, MOST_WAXED = 10;

    private static final int[] FIRST_LAWS = {1, 2, 30, 20};
    private static final int[] MOST_LAWS = {9, 9, 99, 99};
    /** Of each KIND the one that it is under; -1: none. */
    private static final int[] ABOVE = {-1, NAME, NAME, FRESH, COVERED, NAME};

    private static final int TAPE = 200, MOST_FED = 8;
    private static final int MOST_ROWS = 10, ROW_PARTS = 3;
    private static final int SHEETS = 4, MOST_ITEMS = 40, MISSING = -1;
    private static final int BYTES = 0, SHORTS = 1, SORTS = 4;
    private static final int SHELVES = 4, HOLDS_NOTHING = 0, HOLDS_NAME = 1, HOLDS_ROW = 2, ROW_AS = 10;
    private static final int MOST_TRACE = 30, ACTS = 4;
    private static final int WALL_SETS = 1 << WALLS;
    private static final int BY_CLEANING = 0, BY_GROUND = 1, BY_KIND = 2;

    private final Town now = new Town();
    private final Town tried = new Town();
    private final Town told = new Town();
    private final Town kept = new Town();
    private boolean isKept = false;

    private final byte[] tape = new byte[TAPE];
    private int taped = 0;
    private final int[] rows = new int[MOST_ROWS * ROW_PARTS];
    private int rowCount = 0;

    private final Items[] sheets = new Items[SHEETS];
    private final int[] shelfHolds = new int[SHELVES];
    private final int[] shelfNames = new int[SHELVES];
    private final Items[] shelfRows = new Items[SHELVES];
    private final Thing thing = new Thing();

    /** For each set of WALLS that waxedFor tried: the WALLS whose wax could matter in that trial. */
    private final int[] mattering = new int[WALL_SETS];

    public PaintedWalls() {
    }

    // ---- the tape and the laws

    public int feed(long eight, int n) {
        if (n < 1 || n > MOST_FED) {
            return BAD;
        }
        if (n > TAPE - taped) {
            return FULL;
        }
        for (int i = 0; i < n; i++) {
            tape[taped + i] = (byte) (eight >>> (8 * i));
        }
        taped += n;
        return taped;
    }

    public int town() {
        int length = taped;
        taped = 0;
        told.begin();
        told.draws = now.draws;
        int fault = new TownText(tape, length, told).faultOfAll();
        if (fault >= 0) {
            return -100 - fault;
        }
        now.become(told);
        rowCount = 0;
        return now.count;
    }

    public int set(int law, int v) {
        if (!isBelow(law, LAWS) || v < 0 || v > MOST_LAWS[law]) {
            return BAD;
        }
        int was = now.laws[law];
        now.laws[law] = v;
        return was;
    }

    public int lawOf(int law) {
        return isBelow(law, LAWS) ? now.laws[law] : BAD;
    }

    // ---- names

    public int name(int kind, int hand, int size, int wall) {
        if (!isBelow(kind, KINDS) || !isBelow(hand, HANDS) || size < 0 || size > MOST_SIZE || !isBelow(wall, WALLS)) {
            return BAD;
        }
        return now.addName(kind, hand, size, wall) ? now.count - 1 : FULL;
    }

    public int of(int name, int what) {
        if (!isName(name)) {
            return BAD;
        }
        switch (what) {
            case 0: return now.kind[name];
            case 1: return now.hand[name];
            case 2: return now.size[name];
            case 3: return now.on[name];
            case 4: return now.away[name];
            default: return BAD;
        }
    }

    public int does(int name, int what) {
        if (!isName(name) || !isBelow(what, 3)) {
            return BAD;
        }
        if (what == 2) {
            return 1000 + now.backOf(name);
        }
        if (now.on[name] == GONE) {
            return NONE;
        }
        return 1000 + (what == 0 ? now.growsOf(name) : now.holdsOf(name));
    }

    public int mind(int name, int kind, int hand) {
        if (!isName(name) || !isBelow(kind, KINDS) || !isBelow(hand, HANDS)) {
            return BAD;
        }
        int was = now.kind[name];
        now.kind[name] = kind;
        now.hand[name] = hand;
        return was;
    }

    public int paint(int name, int v) {
        if (!isName(name) || v < 0 || v > MOST_SIZE) {
            return BAD;
        }
        int was = now.size[name];
        now.size[name] = v;
        return was;
    }

    public int move(int name, int wall) {
        if (!isName(name) || wall < 0 || wall > GONE) {
            return BAD;
        }
        int was = now.on[name];
        now.on[name] = wall;
        if (wall != GONE) {
            now.away[name] = 0;
        }
        return was;
    }

    // ---- walls, nights, the state

    public int wall(int wall, int what, int v) {
        if (!isBelow(wall, WALLS) || v < 0) {
            return BAD;
        }
        int was = BAD;
        if (what == 0 && v < GROUNDS) {
            was = now.ground[wall];
            now.ground[wall] = v;
        } else if (what == 1 && v <= MOST_SEEN) {
            was = now.seen[wall];
            now.seen[wall] = v;
        }
        return was;
    }

    public int wallOf(int wall, int what) {
        if (!isBelow(wall, WALLS)) {
            return BAD;
        }
        switch (what) {
            case 0: return now.ground[wall];
            case 1: return now.seen[wall];
            case 2: return now.looksOf(wall);
            case 3: return now.namesOn(wall);
            default: return BAD;
        }
    }

    public int clean(int wall) {
        return isBelow(wall, WALLS) ? now.cleanWall(wall) : BAD;
    }

    public int nights(int n) {
        if (n < 1 || n > MOST_NIGHTS) {
            return BAD;
        }
        for (int i = 0; i < n; i++) {
            now.passNight();
        }
        return now.looksOfAll();
    }

    public int seed(int v) {
        int was = now.draws;
        now.draws = v;
        return was;
    }

    public int night() {
        now.passNightByDraws();
        return now.looksOfAll();
    }

    public int shy(int n) {
        if (n < 1 || n > MOST_TRIED) {
            return BAD;
        }
        tried.become(now);
        int usual = tried.gainedBy(1);
        int draws = now.draws;
        int count = 0;
        for (int i = 0; i < n; i++) {
            tried.become(now);
            tried.draws = draws;
            tried.passNightByDraws();
            if (tried.gained < usual) {
                count++;
            }
            draws = tried.draws;
        }
        return count;
    }

    public int state(int what) {
        switch (what) {
            case 0: return now.nightsPassed;
            case 1: return now.glances;
            case 2: return now.looksOfAll();
            case 3: return now.namesOn(GONE);
            case 4: return now.wallsInUse();
            case 5: return now.wallsOfGround(GREY);
            default: return BAD;
        }
    }

    // ---- what is tried

    public int view(int n) {
        if (n < 0 || n > MOST_NIGHTS) {
            return BAD;
        }
        tried.become(now);
        return tried.gainedBy(n);
    }

    public int stays(int name) {
        return isName(name) ? nightsUntil(name, true) : BAD;
    }

    public int comes(int name) {
        return isName(name) ? nightsUntil(name, false) : BAD;
    }

    private int nightsUntil(int name, boolean isGone) {
        tried.become(now);
        for (int n = 0; n <= MOST_NIGHTS; n++) {
            if ((tried.on[name] == GONE) == isGone) {
                return n;
            }
            tried.passNight();
        }
        return NONE;
    }

    public int clear() {
        tried.become(now);
        for (int n = 0; n <= MOST_NIGHTS; n++) {
            if (tried.looksOfAll() == 0) {
                return n;
            }
            tried.passNight();
        }
        return NONE;
    }

    public int firstFor(int n) {
        return n < 1 || n > MOST_TRIED ? BAD : bestOf(BY_CLEANING, 0, WALLS, n);
    }

    public int groundFor(int wall, int n) {
        return !isBelow(wall, WALLS) || n < 1 || n > MOST_TRIED ? BAD : bestOf(BY_GROUND, wall, GROUNDS, n);
    }

    public int kindFor(int name, int n) {
        return !isName(name) || n < 1 || n > MOST_TRIED ? BAD : bestOf(BY_KIND, name, KINDS, n);
    }

    /** Of the first so many choices the least with which VIEW by n is least; one: whose GROUND or KIND it is. */
    private int bestOf(int means, int one, int choices, int n) {
        int best = 0;
        int least = 0;
        for (int choice = 0; choice < choices; choice++) {
            tried.become(now);
            switch (means) {
                case BY_CLEANING: tried.cleanWall(choice); break;
                case BY_GROUND: tried.ground[one] = choice; break;
                default: tried.kind[one] = choice; break;
            }
            int gained = tried.gainedBy(n);
            if (choice == 0 || gained < least) {
                least = gained;
                best = choice;
            }
        }
        return best;
    }

    public int bucketsFor(int n, int v) {
        if (n < 1 || n > MOST_TRIED || v < 0 || v > MOST_GLANCES) {
            return BAD;
        }
        for (int buckets = 0; buckets <= MOST_LAWS[BUCKETS]; buckets++) {
            tried.become(now);
            tried.laws[BUCKETS] = buckets;
            if (tried.gainsAtMost(n, v)) {
                return buckets;
            }
        }
        return NONE;
    }

    public int waxedFor(int n, int v) {
        if (n < 1 || n > MOST_WAXED || v < 0 || v > MOST_GLANCES) {
            return BAD;
        }
        for (int walls = 0; walls <= WALLS; walls++) {
            for (int set = 0; set < WALL_SETS; set++) {
                if (Integer.bitCount(set) == walls && isEnoughWax(set, n, v)) {
                    return set;
                }
            }
        }
        return NONE;
    }

    /**
     * Whether VIEW by n is v or less with the set waxed. All smaller sets have been found too small before: so a
     * set with a wall whose wax could not matter without it fails as the smaller set did, and need not be tried.
     */
    private boolean isEnoughWax(int set, int n, int v) {
        for (int wall = 0; wall < WALLS; wall++) {
            int bit = 1 << wall;
            if ((set & bit) != 0 && (mattering[set ^ bit] & bit) == 0) {
                mattering[set] = mattering[set ^ bit];
                return false;
            }
        }
        tried.become(now);
        for (int wall = 0; wall < WALLS; wall++) {
            if ((set >> wall & 1) != 0) {
                tried.ground[wall] = WAX;
            }
        }
        boolean isEnough = tried.gainsAtMost(n, v);
        mattering[set] = tried.paintedOn & ~now.wallsOfGround(WAX);
        return isEnough;
    }

    // ---- hands, odds

    public int hands(int what, int name) {
        if (what == 0) {
            return now.handCount();
        }
        return what == 1 && isName(name) ? now.namesByHand(now.hand[name]) : BAD;
    }

    public int fits(int sheet, int name, int what) {
        if (!isBelow(sheet, SHEETS) || !isName(name) || !isBelow(what, 2)) {
            return BAD;
        }
        Items row = sheets[sheet];
        if (row == null) {
            return NOTHING;
        }
        int count = 0;
        int least = NONE;
        for (int hand = HANDS - 1; hand >= 0; hand--) {
            if (isFitting(row, name, hand)) {
                count++;
                least = hand;
            }
        }
        return what == 0 ? count : least;
    }

    private boolean isFitting(Items row, int name, int hand) {
        tried.become(now);
        tried.hand[name] = hand;
        for (int i = 0; i < row.length; i++) {
            tried.passNight();
            int asked = row.values[i];
            if (asked != -1 && asked != tried.on[name]) {
                return false;
            }
        }
        return true;
    }

    public long odds(int n, int k, int part) {
        if (n < 0 || n > 8 || k < 0 || k > n || !isBelow(part, 2)) {
            return BAD;
        }
        int fear = now.laws[FEAR];
        long above = 1;
        long below = 1;
        for (int i = 0; i < k; i++) {
            above = above * (n - i) / (i + 1);
        }
        for (int i = 0; i < n; i++) {
            above *= i < k ? fear : 100 - fear;
            below *= 100;
        }
        return partOf(above, below, part);
    }

    public long hope(int n, int part) {
        if (n < 0 || n > 99 || !isBelow(part, 2)) {
            return BAD;
        }
        return partOf((long) n * now.laws[FEAR], 100, part);
    }

    private static long partOf(long above, long below, int part) {
        long divisor = below;
        long rest = above;
        for (int i = 0; i < 1000 && rest != 0; i++) {
            long next = divisor % rest;
            divisor = rest;
            rest = next;
        }
        if (divisor == 0) {
            return BAD;
        }
        return part == 0 ? above / divisor : below / divisor;
    }

    // ---- rows and the reader

    public int prove(int name, int n) {
        if (!isName(name) || n < 1 || n > MOST_ROWS) {
            return BAD;
        }
        tried.become(now);
        for (int i = 0; i < n; i++) {
            tried.passNight();
            for (int what = 0; what < ROW_PARTS; what++) {
                rows[i * ROW_PARTS + what] = rowPart(name, what);
            }
        }
        rowCount = n;
        return n;
    }

    /** What a ROW of one must tell of the night that is tried. */
    private int rowPart(int name, int what) {
        if (what == 0) {
            return tried.on[name];
        }
        return what == 1 ? tried.size[name] : tried.looksOfAll();
    }

    public int row(int i, int what) {
        return isBelow(i, rowCount) && isBelow(what, ROW_PARTS) ? rows[i * ROW_PARTS + what] : NO_ROW;
    }

    public int alterRow(int i, int what, int v) {
        if (!isBelow(i, rowCount) || !isBelow(what, ROW_PARTS)) {
            return NO_ROW;
        }
        int was = rows[i * ROW_PARTS + what];
        rows[i * ROW_PARTS + what] = v;
        return was;
    }

    public int judge(int name) {
        if (!isName(name)) {
            return BAD;
        }
        tried.become(now);
        for (int i = 0; i < rowCount; i++) {
            tried.passNight();
            for (int what = 0; what < ROW_PARTS; what++) {
                if (rows[i * ROW_PARTS + what] != rowPart(name, what)) {
                    return i + 1;
                }
            }
        }
        return 0;
    }

    // ---- sheets

    public int minds(int sheet, int i, int name, int n) {
        if (!isBelow(sheet, SHEETS) || !isName(name) || n < 0 || n > NAMES || n > now.count - name) {
            return BAD;
        }
        Items row = sheets[sheet];
        if (row == null) {
            return NOTHING;
        }
        if (row.sort != BYTES) {
            return OTHER;
        }
        if (i < 0 || i > row.length || n > row.length - i) {
            return OUTSIDE;
        }
        for (int k = 0; k < n; k++) {
            now.size[name + k] = heldSize(row.values[i + k]);
        }
        return n;
    }

    public int sheet(int sheet, int sort, int n) {
        if (!isBelow(sheet, SHEETS) || sort < MISSING || sort >= SORTS) {
            return BAD;
        }
        if (sort == MISSING) {
            sheets[sheet] = null;
            return 1;
        }
        if (n > MOST_ITEMS) {
            return BAD;
        }
        if (n < 0) {
            return BELOW_0;
        }
        sheets[sheet] = new Items(sort, n);
        return 1;
    }

    public int put(int sheet, int i, int v) {
        if (!isBelow(sheet, SHEETS)) {
            return BAD;
        }
        Items row = sheets[sheet];
        if (row == null) {
            return NOTHING;
        }
        if (!isBelow(i, row.length)) {
            return OUTSIDE;
        }
        row.values[i] = narrowed(row.sort, v);
        return 1;
    }

    public int item(int sheet, int sort, int i) {
        if (!isBelow(sheet, SHEETS) || !isBelow(sort, SORTS)) {
            return BAD;
        }
        Items row = sheets[sheet];
        if (row == null) {
            return NOTHING;
        }
        if (row.sort != sort) {
            return OTHER;
        }
        return isBelow(i, row.length) ? row.values[i] : OUTSIDE;
    }

    // ---- shelves and acts

    public int shelf(int shelf, int what, int n) {
        if (!isBelow(shelf, SHELVES)) {
            return BAD;
        }
        if (what == 0 && isName(n)) {
            shelfHolds[shelf] = HOLDS_NAME;
            shelfNames[shelf] = n;
        } else if (what == 1 && isBelow(n, SHEETS)) {
            shelfHolds[shelf] = sheets[n] == null ? HOLDS_NOTHING : HOLDS_ROW;
            shelfRows[shelf] = sheets[n];
        } else if (what == 2) {
            shelfHolds[shelf] = HOLDS_NOTHING;
        } else {
            return BAD;
        }
        return 1;
    }

    public int taken(int shelf, int as) {
        boolean asName = isBelow(as, KINDS);
        if (!isBelow(shelf, SHELVES) || !asName && !isBelow(as - ROW_AS, SORTS)) {
            return BAD;
        }
        if (isNameOn(shelf)) {
            int name = shelfNames[shelf];
            return asName && isUnder(now.kind[name], as) ? name : OTHER;
        }
        Items row = shelfRows[shelf];
        if (shelfHolds[shelf] != HOLDS_ROW || row == null) {
            return NOTHING;
        }
        return row.sort == as - ROW_AS ? row.length : OTHER;
    }

    public int act(int shelf, int act, int x) {
        thing.traced = 0;
        if (!isBelow(shelf, SHELVES) || !isBelow(act, ACTS) || !isNameOn(shelf)) {
            return 0;
        }
        int name = shelfNames[shelf];
        thing.become(now.kind[name], name, now.hand[name]);
        int answer;
        switch (act) {
            case 0: answer = thing.sprays(x); break;
            case 1: answer = thing.drips(x); break;
            case 2: answer = thing.parts(x); break;
            default: answer = thing.fades(x); break;
        }
        return thing.isBroken ? PARTED_BY_0 : answer;
    }

    /** One of fewer NAMES may be what the SHELF was given: then it holds nothing. */
    private boolean isNameOn(int shelf) {
        return shelfHolds[shelf] == HOLDS_NAME && isName(shelfNames[shelf]);
    }

    public int trace(int i) {
        return isBelow(i, thing.traced) ? thing.bodies[i] : NONE;
    }

    public int many(int what) {
        switch (what) {
            case 0: return now.count;
            case 1: return Integer.bitCount(now.namesOn(GONE));
            case 2: return now.wallsLookedAt();
            case 3: return now.handCount();
            case 4: return rowCount;
            case 5: return taped;
            case 6: return thing.traced;
            default: return BAD;
        }
    }

    public int keep() {
        kept.become(now);
        isKept = true;
        return 1;
    }

    public int again() {
        if (!isKept) {
            return NONE;
        }
        now.become(kept);
        return now.count;
    }

    // ---- small questions

    private boolean isName(int name) {
        return isBelow(name, now.count);
    }

    private static boolean isBelow(int i, int end) {
        return i >= 0 && i < end;
    }

    private static boolean isUnder(int kind, int as) {
        int one = kind;
        for (int i = 0; i < KINDS && isBelow(one, KINDS); i++) {
            if (one == as) {
                return true;
            }
            one = ABOVE[one];
        }
        return false;
    }

    private static int heldSize(int v) {
        return Math.max(0, Math.min(MOST_SIZE, v));
    }

    private static int narrowed(int sort, int v) {
        if (sort == BYTES) {
            return (byte) v;
        }
        return sort == SHORTS ? (short) v : v;
    }

    /** The row of a SHEET. Longs come from ints and are given as their lowest 32 bits, so an int holds each. */
    private static final class Items {
        final int sort;
        final int length;
        final int[] values;

        Items(int sort, int length) {
            this.sort = sort;
            this.length = length;
            this.values = new int[length];
        }
    }

    /** All that is kept: the LAWS, the WALLS, the NAMES, the nights, the draws. */
    private static final class Town {
        final int[] laws = new int[LAWS];
        final int[] ground = new int[WALLS];
        final int[] seen = new int[WALLS];
        int count;
        final int[] kind = new int[NAMES];
        final int[] hand = new int[NAMES];
        final int[] size = new int[NAMES];
        final int[] on = new int[NAMES];
        final int[] away = new int[NAMES];
        int nightsPassed;
        int glances;
        int draws = FIRST_DRAW;
        /** GLANCES that came since this town began or became another, not held. */
        int gained;
        /** The WALLS ON which one was as NAMES grew since then, as a set. */
        int paintedOn;
        private final int[] wallLooks = new int[WALLS];

        Town() {
            begin();
        }

        /** As at first, but for the draws. */
        void begin() {
            for (int law = 0; law < LAWS; law++) {
                laws[law] = FIRST_LAWS[law];
            }
            for (int wall = 0; wall < WALLS; wall++) {
                ground[wall] = OLD;
                seen[wall] = FIRST_SEEN;
            }
            count = 0;
            nightsPassed = 0;
            glances = 0;
            gained = 0;
            paintedOn = 0;
        }

        void become(Town other) {
            System.arraycopy(other.laws, 0, laws, 0, LAWS);
            System.arraycopy(other.ground, 0, ground, 0, WALLS);
            System.arraycopy(other.seen, 0, seen, 0, WALLS);
            count = other.count;
            System.arraycopy(other.kind, 0, kind, 0, NAMES);
            System.arraycopy(other.hand, 0, hand, 0, NAMES);
            System.arraycopy(other.size, 0, size, 0, NAMES);
            System.arraycopy(other.on, 0, on, 0, NAMES);
            System.arraycopy(other.away, 0, away, 0, NAMES);
            nightsPassed = other.nightsPassed;
            glances = other.glances;
            draws = other.draws;
            gained = 0;
            paintedOn = 0;
        }

        boolean addName(int ofKind, int byHand, int ofSize, int onWall) {
            if (count >= NAMES) {
                return false;
            }
            kind[count] = ofKind;
            hand[count] = byHand;
            size[count] = ofSize;
            on[count] = onWall;
            away[count] = 0;
            count++;
            return true;
        }

        // ---- what one does

        int growsOf(int name) {
            int lured = on[name] != GONE && ground[on[name]] == GREY ? laws[LURE] : 0;
            switch (kind[name]) {
                case FRESH: return 2 + lured;
                case TEMPTED: return (2 + lured) * 2;
                case COVERED: return 2 - othersBy(name);
                case GROWN: return 2 - othersBy(name) + 3;
                case KEPT: return 0;
                default: return 2;
            }
        }

        int holdsOf(int name) {
            int half = size[name] / 2;
            switch (kind[name]) {
                case FRESH: return half - laws[LURE];
                case TEMPTED: return half - laws[LURE] + hand[name];
                case COVERED: return half + 5;
                case GROWN: return half + 5 + othersBy(name);
                case KEPT: return 99;
                default: return half;
            }
        }

        int backOf(int name) {
            switch (kind[name]) {
                case FRESH: return 3 - 2;
                case TEMPTED: return 3 - 2;
                case COVERED: return 3 + hand[name];
                case GROWN: return (3 + hand[name]) / 2;
                case KEPT: return 3 * 3;
                default: return 3;
            }
        }

        private int othersBy(int name) {
            int others = -1;
            for (int i = 0; i < count; i++) {
                if (on[i] == on[name]) {
                    others++;
                }
            }
            return others;
        }

        // ---- looks and sets

        int looksOf(int wall) {
            int sizes = 0;
            for (int i = 0; i < count; i++) {
                if (on[i] == wall) {
                    sizes += size[i];
                }
            }
            return seen[wall] * sizes;
        }

        int looksOfAll() {
            int looks = 0;
            for (int i = 0; i < count; i++) {
                if (on[i] != GONE) {
                    looks += seen[on[i]] * size[i];
                }
            }
            return looks;
        }

        int wallsLookedAt() {
            int walls = 0;
            for (int wall = 0; wall < WALLS; wall++) {
                if (looksOf(wall) > 0) {
                    walls++;
                }
            }
            return walls;
        }

        int namesOn(int wall) {
            int set = 0;
            for (int i = 0; i < count; i++) {
                if (on[i] == wall) {
                    set |= 1 << i;
                }
            }
            return set;
        }

        int namesByHand(int one) {
            int set = 0;
            for (int i = 0; i < count; i++) {
                if (hand[i] == one) {
                    set |= 1 << i;
                }
            }
            return set;
        }

        int handCount() {
            int set = 0;
            for (int i = 0; i < count; i++) {
                set |= 1 << hand[i];
            }
            return Integer.bitCount(set);
        }

        int wallsInUse() {
            int set = 0;
            for (int i = 0; i < count; i++) {
                if (on[i] != GONE) {
                    set |= 1 << on[i];
                }
            }
            return set;
        }

        int wallsOfGround(int one) {
            int set = 0;
            for (int wall = 0; wall < WALLS; wall++) {
                if (ground[wall] == one) {
                    set |= 1 << wall;
                }
            }
            return set;
        }

        // ---- cleaning and nights

        int cleanWall(int wall) {
            boolean isWax = ground[wall] == WAX;
            int going = 0;
            for (int i = 0; i < count; i++) {
                if (on[i] == wall && (isWax ? kind[i] != KEPT : holdsOf(i) <= laws[SCRUB])) {
                    going |= 1 << i;
                }
            }
            // apart from the loop above, as what others hold must not tell that one is gone already
            for (int i = 0; i < count; i++) {
                if ((going >> i & 1) != 0) {
                    on[i] = GONE;
                    away[i] = 0;
                }
            }
            if (!isWax) {
                ground[wall] = GREY;
            }
            return Integer.bitCount(going);
        }

        void passNight() {
            comeBack();
            growAll();
            for (int i = 0; i < laws[BUCKETS]; i++) {
                int wall = busiestWall();
                if (wall < 0) {
                    break;
                }
                cleanWall(wall);
            }
            nightsPassed++;
            int looks = looksOfAll();
            glances = Math.min(MOST_GLANCES, glances + looks);
            gained += looks;
        }

        private void comeBack() {
            for (int i = 0; i < count; i++) {
                if (on[i] == GONE) {
                    away[i] = Math.min(99, away[i] + 1);
                    if (away[i] >= backOf(i)) {
                        on[i] = (hand[i] + nightsPassed) % WALLS;
                        away[i] = 0;
                        size[i] = 5;
                    }
                }
            }
        }

        /** What one grows hangs on who is where, not on sizes: so each may grow at once. */
        private void growAll() {
            for (int i = 0; i < count; i++) {
                if (on[i] != GONE) {
                    size[i] = heldSize(size[i] + growsOf(i));
                    paintedOn |= 1 << on[i];
                }
            }
        }

        /** -1: no WALL has LOOKS. */
        private int busiestWall() {
            for (int wall = 0; wall < WALLS; wall++) {
                wallLooks[wall] = 0;
            }
            for (int i = 0; i < count; i++) {
                if (on[i] != GONE) {
                    wallLooks[on[i]] += seen[on[i]] * size[i];
                }
            }
            int best = -1;
            int most = 0;
            for (int wall = 0; wall < WALLS; wall++) {
                if (wallLooks[wall] > most) {
                    most = wallLooks[wall];
                    best = wall;
                }
            }
            return best;
        }

        void passNightByDraws() {
            if (count > 0) {
                int one = draw() % count;
                if (draw() % 100 < laws[FEAR]) {
                    size[one] = size[one] / 2;
                }
            }
            passNight();
        }

        private int draw() {
            draws = draws * 1103515245 + 12345;
            return draws >>> 16;
        }

        int gainedBy(int n) {
            for (int i = 0; i < n; i++) {
                passNight();
            }
            return gained;
        }

        /** Ends early: what is gained never becomes less. */
        boolean gainsAtMost(int n, int v) {
            for (int i = 0; i < n && gained <= v; i++) {
                passNight();
            }
            return gained <= v;
        }
    }

    /** Reads a TEXT into a town. The current token stays the one at fault, once something fails. */
    private static final class TownText {
        private static final int END = 0, WORD = 1, NUMBER = 2, SIGN = 3, MOST_DIGITS = 3;

        private final byte[] bytes;
        private final int length;
        private final Town town;
        private int from;
        private int behind;
        private int sort;

        TownText(byte[] bytes, int length, Town town) {
            this.bytes = bytes;
            this.length = Math.min(length, bytes.length);
            this.town = town;
        }

        /** The FAULT; -1: none. */
        int faultOfAll() {
            step();
            for (int i = 0; i < TAPE && sort != END; i++) {
                int kind = kindTold();
                int law = lawTold();
                boolean isRead;
                if (kind >= 0) {
                    isRead = readName(kind);
                } else if (law >= 0) {
                    isRead = readLaw(law);
                } else {
                    isRead = isWord("wall") && readWall();
                }
                if (!isRead) {
                    return from;
                }
            }
            return -1;
        }

        private boolean readName(int kind) {
            if (town.count >= NAMES) {
                return false;
            }
            step();
            if (!takeWord("on")) {
                return false;
            }
            int wall = takeNumber(WALLS - 1);
            if (wall < 0) {
                return false;
            }
            int hand = takeOption("hand", HANDS - 1, 0);
            if (hand < 0) {
                return false;
            }
            int size = takeOption("size", MOST_SIZE, FIRST_SIZE);
            return size >= 0 && takeEnd() && town.addName(kind, hand, size, wall);
        }

        private boolean readWall() {
            step();
            int wall = takeNumber(WALLS - 1);
            if (wall < 0) {
                return false;
            }
            int ground = groundTold();
            if (ground < 0) {
                return false;
            }
            step();
            int seen = takeOption("seen", MOST_SEEN, town.seen[wall]);
            if (seen < 0 || !takeEnd()) {
                return false;
            }
            town.ground[wall] = ground;
            town.seen[wall] = seen;
            return true;
        }

        private boolean readLaw(int law) {
            step();
            int v = takeNumber(MOST_LAWS[law]);
            if (v < 0 || !takeEnd()) {
                return false;
            }
            town.laws[law] = v;
            return true;
        }

        // ---- words that tell one of several; -1: none of them

        private int kindTold() {
            if (isWord("name")) {
                return NAME;
            }
            if (isWord("fresh")) {
                return FRESH;
            }
            if (isWord("covered")) {
                return COVERED;
            }
            if (isWord("tempted")) {
                return TEMPTED;
            }
            if (isWord("grown")) {
                return GROWN;
            }
            return isWord("kept") ? KEPT : -1;
        }

        private int groundTold() {
            if (isWord("old")) {
                return OLD;
            }
            if (isWord("grey")) {
                return GREY;
            }
            return isWord("wax") ? WAX : -1;
        }

        private int lawTold() {
            if (isWord("buckets")) {
                return BUCKETS;
            }
            if (isWord("lure")) {
                return LURE;
            }
            if (isWord("scrub")) {
                return SCRUB;
            }
            return isWord("fear") ? FEAR : -1;
        }

        // ---- tokens

        private boolean takeWord(String word) {
            if (!isWord(word)) {
                return false;
            }
            step();
            return true;
        }

        /** -1: it is none, or not from 0 to most. */
        private int takeNumber(int most) {
            if (sort != NUMBER || behind - from > MOST_DIGITS) {
                return -1;
            }
            int v = 0;
            for (int i = from; i < behind; i++) {
                v = v * 10 + bytes[i] - '0';
            }
            if (v > most) {
                return -1;
            }
            step();
            return v;
        }

        /** The number behind a word that may stand here; -1: the word stands, but no such number. */
        private int takeOption(String word, int most, int without) {
            return takeWord(word) ? takeNumber(most) : without;
        }

        private boolean takeEnd() {
            if (sort != SIGN || bytes[from] != ';') {
                return false;
            }
            step();
            return true;
        }

        private boolean isWord(String word) {
            if (sort != WORD || behind - from != word.length()) {
                return false;
            }
            for (int i = 0; i < word.length(); i++) {
                if (bytes[from + i] != word.charAt(i)) {
                    return false;
                }
            }
            return true;
        }

        private void step() {
            from = behind;
            while (from < length && bytes[from] == ' ') {
                from++;
            }
            sort = sortAt(from);
            behind = from;
            if (sort == SIGN) {
                behind++;
            } else if (sort != END) {
                while (behind < length && sortAt(behind) == sort) {
                    behind++;
                }
            }
        }

        private int sortAt(int place) {
            if (place >= length) {
                return END;
            }
            byte b = bytes[place];
            if (b >= 'a' && b <= 'z') {
                return WORD;
            }
            return b >= '0' && b <= '9' ? NUMBER : SIGN;
        }
    }

    /** One of the NAMES as a thing of its KIND, with the bodies that KIND has or has from above. */
    private static final class Thing {
        final int[] bodies = new int[MOST_TRACE];
        int traced;
        boolean isBroken;
        private int kind;
        private int number;
        private int hand;
        private boolean isFresh;
        private boolean isCovered;

        void become(int ofKind, int ofNumber, int byHand) {
            kind = ofKind;
            number = ofNumber;
            hand = byHand;
            isFresh = isUnder(ofKind, FRESH);
            isCovered = isUnder(ofKind, COVERED);
            isBroken = false;
        }

        private void begins(int body) {
            // the later ones ran as well, but are not kept
            if (traced < MOST_TRACE) {
                bodies[traced] = body;
                traced++;
            }
        }

        int sprays(int x) {
            if (kind == TEMPTED) {
                begins(51);
            }
            if (kind == GROWN) {
                begins(40);
            }
            if (isCovered) {
                begins(30);
            }
            begins(10);
            int v = x * 7 + number;
            if (isCovered) {
                v = 0 - v;
            }
            if (kind == GROWN) {
                v = v ^ 12;
            }
            return kind == TEMPTED ? v - hand : v;
        }

        int drips(int x) {
            if (kind == GROWN) {
                begins(41);
            }
            if (isFresh) {
                begins(20);
            }
            begins(11);
            int v = sprays(x) - hand * 5;
            if (isFresh) {
                v = v + 9;
            }
            return kind == GROWN ? v + sprays(hand) : v;
        }

        int parts(int x) {
            int parted = x;
            if (kind == TEMPTED) {
                begins(50);
                parted = x - number;
            }
            if (kind == KEPT) {
                begins(61);
            }
            begins(12);
            int by = hand - number;
            if (by == 0) {
                isBroken = true;
                return 0;
            }
            int v = parted / by;
            if (kind == TEMPTED) {
                return v * 4;
            }
            return kind == KEPT ? v ^ sprays(number) : v;
        }

        int fades(int x) {
            if (kind == KEPT) {
                begins(60);
            }
            if (isCovered) {
                begins(31);
            }
            begins(13);
            int v = drips(x) ^ 190;
            if (isCovered) {
                return v - parts(number);
            }
            return kind == KEPT ? 3 - v : v;
        }
    }
}
