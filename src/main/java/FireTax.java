/**
 * A duchy whose fire eaters collect warmth from house to house, night after night.
 *
 * <p>What nights and acts change is held in a row of ints (its parts begin at WARMTH, WOOD and so
 * on), so that an act to be undone, a trial and an image are copies of a row.
 */
public final class FireTax {
    public static final int NONE = -1;

    private static final int NO_SUCH = -2;
    private static final int REFUSED = -3;

    private static final int TAPE_BYTES = 400;
    private static final int BYTES_FED = 20;
    private static final int MOST_HOUSES = 8;
    private static final int MOST_OFFICERS = 3;
    private static final int MOST_LANES = 12;
    private static final int MOST_SNOWS = 6;
    private static final int MOST_RULES = 6;
    private static final int MOST_IMAGES = 4;
    private static final int MOST_BOOKS = 10;
    private static final int MOST_UNDONE = 20;
    private static final int MOST_WARMTH = 999;
    private static final int MOST_NIGHT = 999;
    private static final int MOST_LOGS = 99;
    private static final int MOST_HIDDEN = 99;
    private static final int MOST_ON_HILL = 99999;
    private static final int LONGEST_ROUND = 4;
    private static final int LONGEST_TRIAL = 60;
    private static final int LONGEST_AHEAD = 100;
    private static final int LONGEST_WAIT = 200;
    private static final int NEVER_CALLED = 99;

    /** Where the parts of a row begin. */
    private static final int WARMTH = 0;
    private static final int WOOD = 8;
    private static final int HIDDEN = 16;
    private static final int LAST_CALL = 24;
    private static final int STANDS = 32;
    private static final int HAS = 35;
    private static final int FROZEN = 38;
    private static final int NIGHT = 39;
    private static final int HILL = 40;
    private static final int ROW = 41;

    /** The first twelve are the words that are values; each is followed by one blank. */
    private static final String WORDS = "officer house warmth wood heat tenth room here beside since night frozen duchy lane hat snow call if or and not ";
    private static final int VALUE_WORDS = 12;
    private static final int OFFICER_WORD = 0;
    private static final int HOUSE_WORD = 1;
    private static final int DUCHY_WORD = 12;
    private static final int LANE_WORD = 13;
    private static final int HAT_WORD = 14;
    private static final int SNOW_WORD = 15;
    private static final int CALL_WORD = 16;
    private static final int IF_WORD = 17;
    private static final int OR = 18;
    private static final int AND = 19;
    private static final int NOT = 20;
    private static final int NUMBER = 21;
    private static final int LONG_NUMBER = 22;
    private static final int END = 23;
    private static final int STRANGE = 24;
    private static final int SEMICOLON = 25;
    private static final int PLUS = 26;
    private static final int MINUS = 27;
    private static final int TIMES = 28;
    private static final int OVER = 29;
    private static final int REST = 30;
    private static final int OPEN = 31;
    private static final int CLOSE = 32;
    private static final int LESS = 33;
    private static final int EQUAL = 34;
    private static final int MORE = 35;
    private static final int AT_MOST = 36;
    private static final int AT_LEAST = 37;
    /** In the order of the kinds from SEMICOLON to MORE. */
    private static final String SIGNS = ";+-*/%[]<=>";

    private static final int CANNOT_STAND = 0;
    private static final int NOT_AS_TOLD = 1;
    private static final int TOO_DEEP = 2;
    private static final int TOO_MANY_PARTS = 3;
    private static final int TOO_MANY_CLAUSES = 4;

    private final int[] tape = new int[TAPE_BYTES];
    private int tapeLength = 0;
    private final Tokens tokens = new Tokens();
    private final DuchyReader duchyReader = new DuchyReader(tokens);
    private final RuleReader ruleReader = new RuleReader(tokens);
    private final Rule[] rules = new Rule[MOST_RULES];
    private int ruleCount = 0;
    private final Page page = new Page();
    private final Page[] images = new Page[MOST_IMAGES];
    private final Walk walk = new Walk(page.land);
    private final Rounds rounds = new Rounds(page.land, walk);
    private final Suspects suspects = new Suspects(page, walk);
    private final int[] trial = new int[ROW];

    public FireTax() {
    }

    public int feed(int a, int b, int c, int d, int e) {
        if (tapeLength > TAPE_BYTES - BYTES_FED) {
            return NONE;
        }
        putBytes(a);
        putBytes(b);
        putBytes(c);
        putBytes(d);
        putBytes(e);
        return tapeLength;
    }

    private void putBytes(int number) {
        for (int shift = 24; shift >= 0; shift -= 8) {
            if (tapeLength >= 0 && tapeLength < TAPE_BYTES) {
                tape[tapeLength] = number >>> shift & 255;
                tapeLength++;
            }
        }
    }

    public int end(int n) {
        if (n < 0 || n > tapeLength) {
            return NONE;
        }
        tapeLength = n;
        return n;
    }

    public int duchy() {
        tokens.read(tape, tapeLength);
        tapeLength = 0;
        int fault = duchyReader.read();
        if (fault != 0) {
            return -2 - fault;
        }
        page.settle(duchyReader.draft);
        return page.land.houses;
    }

    public int rule() {
        if (ruleCount >= MOST_RULES) {
            return NONE;
        }
        tokens.read(tape, tapeLength);
        tapeLength = 0;
        int fault = ruleReader.read();
        if (fault != 0) {
            return -2 - fault;
        }
        rules[ruleCount] = ruleReader.handOver();
        ruleCount++;
        return ruleCount - 1;
    }

    public int force(int rule) {
        if (rule < NONE || rule >= ruleCount) {
            return NO_SUCH;
        }
        int before = page.inForce;
        page.inForce = rule;
        return before;
    }

    public int house(int house, int what) {
        if (!isHouse(house)) {
            return NO_SUCH;
        }
        switch (what) {
            case 0: return page.now[WARMTH + house];
            case 1: return page.now[WOOD + house];
            case 2: return page.land.heat[house];
            case 3: return page.now[HIDDEN + house];
            case 4: return isFrozen(house) ? 1 : 0;
            case 5: return page.land.beside[house];
            case 6: return page.now[LAST_CALL + house];
            default: return NO_SUCH;
        }
    }

    public int officer(int officer, int what) {
        if (!isOfficer(officer)) {
            return NONE;
        }
        switch (what) {
            case 0: return page.now[STANDS + officer];
            case 1: return page.land.stomach[officer];
            case 2: return page.now[HAS + officer];
            default: return NONE;
        }
    }

    public int night() {
        if (!page.land.told || page.now[NIGHT] >= MOST_NIGHT) {
            return NONE;
        }
        page.remember();
        walk.follow(ruleAt(page.inForce));
        return walk.pass(page.now, false);
    }

    public int fell(int house, int logs) {
        if (!isHouse(house) || logs < 1 || logs > 9 || page.now[WOOD + house] + logs > MOST_LOGS) {
            return NONE;
        }
        page.remember();
        page.now[WOOD + house] += logs;
        return page.now[WOOD + house];
    }

    public int lend(int house, int to, int much) {
        if (!areBeside(house, to) || isFrozen(house) || much < 1 || much > page.now[WARMTH + house]) {
            return NONE;
        }
        page.remember();
        moveWarmth(page.now, house, to, much);
        boolean warmEnough = page.now[WARMTH + to] >= page.land.freeze;
        if (warmEnough) {
            page.now[FROZEN] &= ~(1 << to);
        }
        return page.now[WARMTH + to];
    }

    public int hide(int house, int much) {
        if (!isHouse(house) || isFrozen(house) || much < 1 || much > page.now[WARMTH + house]
                || much > MOST_HIDDEN - page.now[HIDDEN + house]) {
            return NONE;
        }
        page.remember();
        page.now[WARMTH + house] -= much;
        page.now[HIDDEN + house] += much;
        return page.now[HIDDEN + house];
    }

    public int lift(int officer) {
        if (!isOfficer(officer)) {
            return NONE;
        }
        int house = page.now[STANDS + officer];
        if (!isHouse(house) || page.now[HIDDEN + house] < 1) {
            return NONE;
        }
        page.remember();
        int hidden = page.now[HIDDEN + house];
        int taken = Math.min(hidden / 2, walk.room(page.now, officer));
        page.now[HAS + officer] += taken;
        page.now[WARMTH + house] = Math.min(MOST_WARMTH, page.now[WARMTH + house] + hidden - taken);
        page.now[HIDDEN + house] = 0;
        return taken;
    }

    public int spit(int officer) {
        if (!isOfficer(officer) || page.now[HAS + officer] < 1) {
            return NONE;
        }
        page.remember();
        page.now[HILL] = Math.min(MOST_ON_HILL, page.now[HILL] + page.now[HAS + officer]);
        page.now[HAS + officer] = 0;
        return page.now[HILL];
    }

    public int undo() {
        return page.takeBack() ? page.pastCount : NO_SUCH;
    }

    public int ahead(int number, int n, int what) {
        boolean known = what == 0 && isHouse(number) || what == 1 && isOfficer(number)
                || what == 2 && page.land.told;
        if (!known || n < 0 || n > LONGEST_AHEAD) {
            return NO_SUCH;
        }
        startTrial();
        for (int i = 0; i < n; i++) {
            walk.pass(trial, false);
        }
        switch (what) {
            case 0: return trial[WARMTH + number];
            case 1: return trial[HAS + number];
            default: return Integer.bitCount(trial[FROZEN]);
        }
    }

    public int freezes(int house) {
        if (!isHouse(house) || isFrozen(house)) {
            return NONE;
        }
        startTrial();
        for (int i = 0; i < LONGEST_WAIT; i++) {
            int thisNight = trial[NIGHT];
            walk.pass(trial, false);
            if ((trial[FROZEN] & 1 << house) != 0) {
                return thisNight;
            }
        }
        return NO_SUCH;
    }

    public int round(int officer, int n, int what) {
        if (!isOfficer(officer) || n < 1 || n > LONGEST_ROUND || what < NONE || what >= LONGEST_ROUND) {
            return REFUSED;
        }
        rounds.explore(page.now, officer, n);
        if (rounds.bestSum < 0 || what >= n) {
            return NO_SUCH;
        }
        return what < 0 ? rounds.bestSum : rounds.best[what];
    }

    public int span(int officer, int n, int what) {
        if (!isOfficer(officer) || n < 1 || n > LONGEST_ROUND || what < 0 || what > 1) {
            return NONE;
        }
        rounds.explore(page.now, officer, n);
        if (rounds.most < 0) {
            return NO_SUCH;
        }
        return what == 0 ? rounds.least : rounds.most;
    }

    public int logs(int house, int n) {
        if (!isHouse(house) || isFrozen(house) || !isTrialLength(n)) {
            return NONE;
        }
        for (int wood = 0; wood <= MOST_LOGS; wood++) {
            startTrial();
            trial[WOOD + house] = wood;
            if (staysWarm(n, 1 << house)) {
                return wood;
            }
        }
        return NO_SUCH;
    }

    public int rate(int n) {
        if (!page.land.told || !isTrialLength(n)) {
            return NONE;
        }
        int warmNow = ~page.now[FROZEN];
        for (int tenth = 100; tenth >= 0; tenth--) {
            startTrial();
            walk.tenth = tenth;
            if (staysWarm(n, warmNow)) {
                return tenth;
            }
        }
        return NO_SUCH;
    }

    public int levy(int much, int house) {
        if (!isHouse(house) || much < 0 || much > 9999) {
            return NONE;
        }
        int all = allWarmth();
        if (isFrozen(house) || all < 1) {
            return 0;
        }
        int left = much;
        int served = 0;
        int ownRest = much * page.now[WARMTH + house] % all;
        for (int h = 0; h < page.land.houses; h++) {
            if (isFrozen(h)) {
                continue;
            }
            int whole = much * page.now[WARMTH + h];
            left -= whole / all;
            if (whole % all > ownRest || whole % all == ownRest && h < house) {
                served++;
            }
        }
        int part = much * page.now[WARMTH + house] / all;
        return served < left ? part + 1 : part;
    }

    public int district(int house, int what) {
        if (!isHouse(house) || what < 0 || what > 1) {
            return NONE;
        }
        int nearest = NONE;
        int fewest = MOST_HOUSES;
        for (int o = 0; o < page.land.officers; o++) {
            int lanes = lanesBetween(page.now[STANDS + o], house);
            if (lanes < fewest) {
                fewest = lanes;
                nearest = o;
            }
        }
        if (nearest < 0) {
            return NO_SUCH;
        }
        return what == 0 ? nearest : fewest;
    }

    public int hats(int much, int what) {
        if (!page.land.told || much < 1 || much > 400 || what < 0 || what > 1) {
            return NONE;
        }
        int best = 0;
        int fewest = MOST_HOUSES + 1;
        for (int set = 1; set < 1 << page.land.houses; set++) {
            if (Integer.bitCount(set) < fewest && hiddenIn(set) >= much) {
                fewest = Integer.bitCount(set);
                best = set;
            }
        }
        if (best == 0) {
            return NO_SUCH;
        }
        return what == 0 ? fewest : best;
    }

    public int loan(int house, int to, int n) {
        if (!areBeside(house, to) || isFrozen(house) || isFrozen(to) || !isTrialLength(n)) {
            return NONE;
        }
        for (int much = 0; much <= page.now[WARMTH + house]; much++) {
            startTrial();
            moveWarmth(trial, house, to, much);
            if (staysWarm(n, 1 << house | 1 << to)) {
                return much;
            }
        }
        return NO_SUCH;
    }

    public int book(int n, int house, int warmth) {
        if (n == NONE) {
            page.bookCount = 0;
            return 0;
        }
        if (!isBookNight(n) || !isHouse(house) || warmth < 0 || warmth > MOST_WARMTH
                || page.bookCount >= MOST_BOOKS) {
            return NO_SUCH;
        }
        page.addBook(n, house, warmth);
        return page.bookCount;
    }

    public int ruled(int what) {
        if (!page.land.told || what < 0 || what > 1) {
            return REFUSED;
        }
        int fitting = 0;
        int first = NO_SUCH;
        for (int r = NONE; r < ruleCount; r++) {
            if (suspects.fits(ruleAt(r))) {
                fitting++;
                first = first == NO_SUCH ? r : first;
            }
        }
        return what == 0 ? fitting : first;
    }

    public int look(int n, int what) {
        if (!page.land.told || !isBookNight(n) || what < 0 || what > 1) {
            return NONE;
        }
        suspects.clear();
        for (int r = NONE; r < ruleCount; r++) {
            if (suspects.fits(ruleAt(r))) {
                suspects.add(ruleAt(r), n);
            }
        }
        if (suspects.size == 0 || page.land.houses == 0) {
            return NO_SUCH;
        }
        int best = 0;
        for (int h = 1; h < page.land.houses; h++) {
            best = suspects.mostAlike(h) < suspects.mostAlike(best) ? h : best;
        }
        return what == 0 ? best : suspects.mostAlike(best);
    }

    public int seed(int x) {
        if (x < 0) {
            return NONE;
        }
        int before = page.x;
        page.x = x;
        return before;
    }

    public int winters(int m, int n, int p, int what) {
        if (!page.land.told || m < 1 || m > 10 || !isTrialLength(n) || p < 0 || p > 100
                || what < 0 || what > 1) {
            return NONE;
        }
        long x = page.x;
        int frozen = 0;
        int held = 0;
        for (int winter = 0; winter < m; winter++) {
            startTrial();
            for (int i = 0; i < n; i++) {
                x = nextDraw(x);
                walk.pass(trial, x / 65536 % 100 < p);
            }
            frozen += Integer.bitCount(trial[FROZEN]);
            held += trial[HAS] + trial[HAS + 1] + trial[HAS + 2];
        }
        return what == 0 ? frozen : held;
    }

    public int count(int what) {
        switch (what) {
            case 0: return page.land.tenth;
            case 1: return page.land.loss;
            case 2: return page.land.freeze;
            case 3: return page.land.houses;
            case 4: return page.land.lanes;
            case 5: return page.land.officers;
            case 6: return ruleCount;
            case 7: return page.inForce;
            case 8: return page.now[NIGHT];
            case 9: return page.now[FROZEN];
            case 10: return page.now[HILL];
            case 11: return page.land.hasSnow(page.now[NIGHT]) ? 1 : 0;
            case 12: return page.bookCount;
            case 13: return page.pastCount;
            case 14: return page.x;
            case 15: return tapeLength;
            default: return NONE;
        }
    }

    public int image(int k) {
        if (k < 0 || k >= MOST_IMAGES) {
            return NONE;
        }
        if (images[k] == null) {
            images[k] = new Page();
        }
        images[k].copyFrom(page);
        return page.now[NIGHT];
    }

    public int back(int k) {
        if (k < 0 || k >= MOST_IMAGES || images[k] == null) {
            return NONE;
        }
        page.copyFrom(images[k]);
        return page.now[NIGHT];
    }

    private boolean isHouse(int house) {
        return house >= 0 && house < page.land.houses;
    }

    private boolean isOfficer(int officer) {
        return officer >= 0 && officer < page.land.officers;
    }

    private boolean isFrozen(int house) {
        return (page.now[FROZEN] >> house & 1) != 0;
    }

    private boolean areBeside(int house, int other) {
        return isHouse(house) && isHouse(other) && (page.land.beside[house] >> other & 1) != 0;
    }

    private static boolean isTrialLength(int n) {
        return n >= 1 && n <= LONGEST_TRIAL;
    }

    private static boolean isBookNight(int n) {
        return n >= 0 && n <= Suspects.LAST_NIGHT;
    }

    private Rule ruleAt(int number) {
        return number >= 0 && number < ruleCount ? rules[number] : null;
    }

    private void startTrial() {
        System.arraycopy(page.now, 0, trial, 0, ROW);
        walk.follow(ruleAt(page.inForce));
    }

    /** A house that is frozen stays so by nights, so the first one met decides. */
    private boolean staysWarm(int n, int houses) {
        for (int i = 0; i < n; i++) {
            walk.pass(trial, false);
            if ((trial[FROZEN] & houses) != 0) {
                return false;
            }
        }
        return true;
    }

    private static void moveWarmth(int[] row, int house, int to, int much) {
        row[WARMTH + house] -= much;
        row[WARMTH + to] = Math.min(MOST_WARMTH, row[WARMTH + to] + much);
    }

    private int allWarmth() {
        int sum = 0;
        for (int h = 0; h < page.land.houses; h++) {
            sum += isFrozen(h) ? 0 : page.now[WARMTH + h];
        }
        return sum;
    }

    private int hiddenIn(int set) {
        int sum = 0;
        for (int h = 0; h < page.land.houses; h++) {
            sum += (set >> h & 1) == 0 ? 0 : page.now[HIDDEN + h];
        }
        return sum;
    }

    /** MOST_HOUSES if there is no way: no way is as long as that. */
    private int lanesBetween(int from, int to) {
        int reached = 1 << from;
        for (int lanes = 0; lanes < MOST_HOUSES; lanes++) {
            if ((reached >> to & 1) != 0) {
                return lanes;
            }
            int before = reached;
            for (int h = 0; h < page.land.houses; h++) {
                reached |= (before >> h & 1) == 0 ? 0 : page.land.beside[h];
            }
        }
        return MOST_HOUSES;
    }

    private static long nextDraw(long x) {
        return (x * 1103515245L + 12345L) % 2147483648L;
    }

    /** What the text of a duchy tells, which no night and no act changes. */
    private static final class Land {
        boolean told = false;
        int tenth = 0;
        int loss = 0;
        int freeze = 0;
        int houses = 0;
        int lanes = 0;
        int officers = 0;
        int snows = 0;
        final int[] heat = new int[MOST_HOUSES];
        final int[] beside = new int[MOST_HOUSES];
        final int[] stomach = new int[MOST_OFFICERS];
        final int[] snow = new int[MOST_SNOWS];
        /** The row as the text told it. */
        final int[] begin = new int[ROW];

        void clear() {
            told = false;
            tenth = 0;
            loss = 0;
            freeze = 0;
            houses = 0;
            lanes = 0;
            officers = 0;
            snows = 0;
            for (int h = 0; h < MOST_HOUSES; h++) {
                beside[h] = 0;
            }
            for (int i = 0; i < ROW; i++) {
                begin[i] = 0;
            }
        }

        void copyFrom(Land other) {
            told = other.told;
            tenth = other.tenth;
            loss = other.loss;
            freeze = other.freeze;
            houses = other.houses;
            lanes = other.lanes;
            officers = other.officers;
            snows = other.snows;
            System.arraycopy(other.heat, 0, heat, 0, MOST_HOUSES);
            System.arraycopy(other.beside, 0, beside, 0, MOST_HOUSES);
            System.arraycopy(other.stomach, 0, stomach, 0, MOST_OFFICERS);
            System.arraycopy(other.snow, 0, snow, 0, MOST_SNOWS);
            System.arraycopy(other.begin, 0, begin, 0, ROW);
        }

        void addHouse(int warmth, int wood, int ofLog) {
            if (houses < MOST_HOUSES) {
                begin[WARMTH + houses] = warmth;
                begin[WOOD + houses] = wood;
                begin[LAST_CALL + houses] = NONE;
                heat[houses] = ofLog;
                houses++;
            }
        }

        void addLane(int one, int other) {
            if ((beside[one] >> other & 1) == 0) {
                beside[one] |= 1 << other;
                beside[other] |= 1 << one;
                lanes++;
            }
        }

        void addOfficer(int at, int room) {
            if (officers < MOST_OFFICERS) {
                begin[STANDS + officers] = at;
                stomach[officers] = room;
                officers++;
            }
        }

        void addSnow(int onNight) {
            if (snows < MOST_SNOWS) {
                snow[snows] = onNight;
                snows++;
            }
        }

        boolean hasSnow(int onNight) {
            for (int i = 0; i < snows; i++) {
                if (snow[i] == onNight) {
                    return true;
                }
            }
            return false;
        }
    }

    /** All that an image holds. */
    private static final class Page {
        final Land land = new Land();
        final int[] now = new int[ROW];
        /** The rows ahead of the last acts, one behind the other, the oldest first. */
        final int[] past = new int[MOST_UNDONE * ROW];
        int pastCount = 0;
        final int[] bookNight = new int[MOST_BOOKS];
        final int[] bookHouse = new int[MOST_BOOKS];
        final int[] bookWarmth = new int[MOST_BOOKS];
        int bookCount = 0;
        int inForce = NONE;
        int x = 0;

        void settle(Land told) {
            land.copyFrom(told);
            System.arraycopy(told.begin, 0, now, 0, ROW);
            pastCount = 0;
            bookCount = 0;
        }

        void remember() {
            if (pastCount >= MOST_UNDONE) {
                System.arraycopy(past, ROW, past, 0, (MOST_UNDONE - 1) * ROW);
                pastCount = MOST_UNDONE - 1;
            }
            System.arraycopy(now, 0, past, pastCount * ROW, ROW);
            pastCount++;
        }

        boolean takeBack() {
            if (pastCount < 1) {
                return false;
            }
            pastCount--;
            System.arraycopy(past, pastCount * ROW, now, 0, ROW);
            return true;
        }

        void addBook(int n, int house, int warmth) {
            if (bookCount < MOST_BOOKS) {
                bookNight[bookCount] = n;
                bookHouse[bookCount] = house;
                bookWarmth[bookCount] = warmth;
                bookCount++;
            }
        }

        void copyFrom(Page other) {
            land.copyFrom(other.land);
            System.arraycopy(other.now, 0, now, 0, ROW);
            System.arraycopy(other.past, 0, past, 0, MOST_UNDONE * ROW);
            pastCount = other.pastCount;
            System.arraycopy(other.bookNight, 0, bookNight, 0, MOST_BOOKS);
            System.arraycopy(other.bookHouse, 0, bookHouse, 0, MOST_BOOKS);
            System.arraycopy(other.bookWarmth, 0, bookWarmth, 0, MOST_BOOKS);
            bookCount = other.bookCount;
            inForce = other.inForce;
            x = other.x;
        }
    }

    /** Takes rows through nights by one rule, or by none. */
    private static final class Walk {
        private final Land land;
        private final long[] words = new long[VALUE_WORDS];
        private Rule law = null;
        int tenth = 0;

        Walk(Land land) {
            this.land = land;
        }

        void follow(Rule followed) {
            law = followed;
            tenth = land.tenth;
        }

        /** Answers what officers take in the night. */
        int pass(int[] row, boolean drawnSnow) {
            int taken = 0;
            for (int o = 0; o < land.officers; o++) {
                int h = choose(row, o);
                if (h >= 0) {
                    taken += callAt(row, o, h);
                }
            }
            burn(row, drawnSnow);
            return taken;
        }

        private int choose(int[] row, int officer) {
            if (law == null) {
                return NONE;
            }
            int best = NONE;
            long greatest = 0;
            for (int h = 0; h < land.houses; h++) {
                if (!canCall(row, officer, h)) {
                    continue;
                }
                tellWords(row, officer, h);
                long worth = law.worth(words);
                if (worth > greatest) {
                    greatest = worth;
                    best = h;
                }
            }
            return best;
        }

        boolean canCall(int[] row, int officer, int house) {
            int at = row[STANDS + officer];
            boolean near = at == house || (land.beside[house] >> at & 1) != 0;
            return near && (row[FROZEN] >> house & 1) == 0 && row[LAST_CALL + house] != row[NIGHT];
        }

        int callAt(int[] row, int officer, int house) {
            int taken = share(row, officer, house);
            row[WARMTH + house] -= taken;
            row[HAS + officer] += taken;
            row[STANDS + officer] = house;
            row[LAST_CALL + house] = row[NIGHT];
            return taken;
        }

        int room(int[] row, int officer) {
            return land.stomach[officer] - row[HAS + officer];
        }

        private int share(int[] row, int officer, int house) {
            return Math.min(tenth * row[WARMTH + house] / 100, room(row, officer));
        }

        /** In the order of WORDS. */
        private void tellWords(int[] row, int officer, int house) {
            words[0] = officer;
            words[1] = house;
            words[2] = row[WARMTH + house];
            words[3] = row[WOOD + house];
            words[4] = land.heat[house];
            words[5] = share(row, officer, house);
            words[6] = room(row, officer);
            words[7] = row[STANDS + officer] == house ? 1 : 0;
            words[8] = Integer.bitCount(land.beside[house]);
            words[9] = row[LAST_CALL + house] < 0 ? NEVER_CALLED
                    : Math.min(NEVER_CALLED, row[NIGHT] - row[LAST_CALL + house]);
            words[10] = row[NIGHT];
            words[11] = Integer.bitCount(row[FROZEN]);
        }

        void burn(int[] row, boolean drawnSnow) {
            int lost = drawnSnow || land.hasSnow(row[NIGHT]) ? 2 * land.loss : land.loss;
            for (int h = 0; h < land.houses; h++) {
                if ((row[FROZEN] >> h & 1) != 0) {
                    continue;
                }
                int warmth = row[WARMTH + h];
                if (row[WOOD + h] > 0) {
                    row[WOOD + h]--;
                    warmth = Math.min(MOST_WARMTH, warmth + land.heat[h]);
                }
                row[WARMTH + h] = Math.max(0, warmth - lost);
                if (row[WARMTH + h] < land.freeze) {
                    row[FROZEN] |= 1 << h;
                }
            }
            row[NIGHT]++;
        }
    }

    /** All rows of houses at which one officer can call, night after night. */
    private static final class Rounds {
        private final Land land;
        private final Walk walk;
        private final int[][] rows = new int[LONGEST_ROUND + 1][ROW];
        private final int[] sums = new int[LONGEST_ROUND + 1];
        private final int[] path = new int[LONGEST_ROUND];
        private int nights = 0;
        private int caller = 0;
        final int[] best = new int[LONGEST_ROUND];
        /** These are below 0 if there is no row. */
        int bestSum = NONE;
        int least = NONE;
        int most = NONE;

        Rounds(Land land, Walk walk) {
            this.land = land;
            this.walk = walk;
        }

        void explore(int[] now, int officer, int n) {
            System.arraycopy(now, 0, rows[0], 0, ROW);
            sums[0] = 0;
            nights = n;
            caller = officer;
            bestSum = NONE;
            least = NONE;
            most = NONE;
            walk.follow(null);
            goOn(0);
        }

        private void goOn(int depth) {
            if (depth >= nights || depth >= LONGEST_ROUND) {
                weigh(depth);
                return;
            }
            int[] before = rows[depth];
            int[] behind = rows[depth + 1];
            for (int h = 0; h < land.houses; h++) {
                if (!walk.canCall(before, caller, h)) {
                    continue;
                }
                System.arraycopy(before, 0, behind, 0, ROW);
                sums[depth + 1] = sums[depth] + walk.callAt(behind, caller, h);
                walk.burn(behind, false);
                path[depth] = h;
                goOn(depth + 1);
            }
        }

        private void weigh(int depth) {
            int sum = sums[depth];
            least = least < 0 ? sum : Math.min(least, sum);
            most = Math.max(most, sum);
            boolean nobodyFroze = rows[depth][FROZEN] == rows[0][FROZEN];
            if (nobodyFroze && sum > bestSum) {
                bestSum = sum;
                System.arraycopy(path, 0, best, 0, LONGEST_ROUND);
            }
        }
    }

    /** The rules, and none, by which the books can have been so. */
    private static final class Suspects {
        static final int LAST_NIGHT = 60;
        private final Page page;
        private final Walk walk;
        private final int[] row = new int[ROW];
        /** What the houses of each one have, MOST_HOUSES to each. */
        private final int[] warmths = new int[(MOST_RULES + 1) * MOST_HOUSES];
        int size = 0;

        Suspects(Page page, Walk walk) {
            this.page = page;
            this.walk = walk;
        }

        void clear() {
            size = 0;
        }

        boolean fits(Rule suspect) {
            begin(suspect);
            int last = lastBookNight();
            for (int n = 0; n <= last; n++) {
                walk.pass(row, false);
                if (!agrees(n)) {
                    return false;
                }
            }
            return true;
        }

        private void begin(Rule suspect) {
            System.arraycopy(page.land.begin, 0, row, 0, ROW);
            walk.follow(suspect);
        }

        private int lastBookNight() {
            int last = NONE;
            for (int b = 0; b < page.bookCount; b++) {
                last = Math.max(last, page.bookNight[b]);
            }
            return last;
        }

        private boolean agrees(int n) {
            for (int b = 0; b < page.bookCount; b++) {
                if (page.bookNight[b] == n && row[WARMTH + page.bookHouse[b]] != page.bookWarmth[b]) {
                    return false;
                }
            }
            return true;
        }

        void add(Rule suspect, int lastNight) {
            if (size > MOST_RULES) {
                return;
            }
            begin(suspect);
            for (int n = 0; n <= lastNight; n++) {
                walk.pass(row, false);
            }
            System.arraycopy(row, WARMTH, warmths, size * MOST_HOUSES, MOST_HOUSES);
            size++;
        }

        /** How many agree about the house at most. */
        int mostAlike(int house) {
            int largest = 0;
            for (int i = 0; i < size; i++) {
                int alike = 0;
                for (int j = 0; j < size; j++) {
                    if (warmths[i * MOST_HOUSES + house] == warmths[j * MOST_HOUSES + house]) {
                        alike++;
                    }
                }
                largest = Math.max(largest, alike);
            }
            return largest;
        }
    }

    /** A text cut into words, numbers and signs, gone through one by one. */
    private static final class Tokens {
        private static final int MOST_DIGITS = 5;
        private final int[] kinds = new int[TAPE_BYTES + 1];
        private final int[] places = new int[TAPE_BYTES + 1];
        private final int[] numbers = new int[TAPE_BYTES + 1];
        private int size = 0;
        private int index = 0;
        /** Of the one that is looked at: its kind, the place of its first byte, its value. */
        int kind = END;
        int place = 0;
        int number = 0;

        /** The first one is looked at then. */
        void read(int[] text, int length) {
            size = 0;
            int at = 0;
            for (int i = 0; i < TAPE_BYTES && at < length; i++) {
                at = text[at] == ' ' ? at + 1 : readOne(text, length, at);
            }
            add(END, length, 0);
            index = NONE;
            step();
        }

        /** The next one is looked at; behind the last one, the end, there is none. */
        void step() {
            if (index + 1 < size) {
                index++;
                kind = kinds[index];
                place = places[index];
                number = numbers[index];
            }
        }

        private void add(int ofKind, int at, int value) {
            if (size <= TAPE_BYTES) {
                kinds[size] = ofKind;
                places[size] = at;
                numbers[size] = value;
                size++;
            }
        }

        /** Answers the place behind it. */
        private int readOne(int[] text, int length, int at) {
            if (isLetter(text[at])) {
                return readWord(text, length, at);
            }
            if (isDigit(text[at])) {
                return readNumber(text, length, at);
            }
            int sign = SIGNS.indexOf((char) text[at]);
            int found = sign < 0 ? STRANGE : SEMICOLON + sign;
            boolean equalToo = at + 1 < length && text[at + 1] == '=';
            if (equalToo && (found == LESS || found == MORE)) {
                add(found == LESS ? AT_MOST : AT_LEAST, at, 0);
                return at + 2;
            }
            add(found, at, 0);
            return at + 1;
        }

        private int readWord(int[] text, int length, int from) {
            int to = from + 1;
            while (to < length && isLetter(text[to])) {
                to++;
            }
            add(wordOf(text, from, to), from, 0);
            return to;
        }

        private int readNumber(int[] text, int length, int from) {
            int to = from;
            int value = 0;
            while (to < length && isDigit(text[to])) {
                if (to - from < MOST_DIGITS) {
                    value = value * 10 + text[to] - '0';
                }
                to++;
            }
            add(to - from > MOST_DIGITS ? LONG_NUMBER : NUMBER, from, value);
            return to;
        }

        private static int wordOf(int[] text, int from, int to) {
            int word = 0;
            int start = 0;
            for (int i = 0; i < WORDS.length(); i++) {
                if (WORDS.charAt(i) != ' ') {
                    continue;
                }
                if (i - start == to - from && isWord(text, from, start, i)) {
                    return word;
                }
                word++;
                start = i + 1;
            }
            return STRANGE;
        }

        private static boolean isWord(int[] text, int from, int start, int behind) {
            for (int i = start; i < behind; i++) {
                if (text[from + i - start] != WORDS.charAt(i)) {
                    return false;
                }
            }
            return true;
        }

        private static boolean isLetter(int b) {
            return b >= 'a' && b <= 'z';
        }

        private static boolean isDigit(int b) {
            return b >= '0' && b <= '9';
        }
    }

    /** Reads the text of a duchy into a draft. */
    private static final class DuchyReader {
        private static final int MOST_CLAUSES = 40;
        private static final int MOST_NUMBERS = 3;
        private static final int STRANGER = -1;
        private static final int DUCHY_FORM = 0;
        private static final int HOUSE_FORM = 1;
        private static final int LANE_FORM = 2;
        private static final int HAT_FORM = 3;
        private static final int OFFICER_FORM = 4;
        private static final int SNOW_FORM = 5;
        /** Stands in MOST for the number of a house that was told. */
        private static final int TOLD = -1;
        /** By form: how many numbers, and MOST_NUMBERS greatest ones. */
        private static final int[] NUMBERS = {3, 3, 2, 2, 2, 1};
        private static final int[] MOST = {
            100, 20, 50,
            99, 99, 20,
            TOLD, TOLD, 0,
            TOLD, 50, 0,
            TOLD, 200, 0,
            99, 0, 0
        };

        private final Tokens tokens;
        private final int[] values = new int[MOST_NUMBERS];
        private int fault = 0;
        final Land draft = new Land();

        DuchyReader(Tokens tokens) {
            this.tokens = tokens;
        }

        /** Answers the fault, 0 without. */
        int read() {
            draft.clear();
            draft.told = true;
            fault = 0;
            for (int clause = 0; clause <= MOST_CLAUSES; clause++) {
                if (!readClause(clause)) {
                    return fault;
                }
                if (tokens.kind == END) {
                    return 0;
                }
                if (tokens.kind != SEMICOLON) {
                    fail(CANNOT_STAND);
                    return fault;
                }
                tokens.step();
            }
            return fault;
        }

        private boolean readClause(int clause) {
            int form = formOf(tokens.kind);
            if (form == STRANGER) {
                return fail(CANNOT_STAND);
            }
            boolean inPlace = (form == DUCHY_FORM) == (clause == 0);
            if (clause >= MOST_CLAUSES || !inPlace || isFull(form)) {
                return fail(TOO_MANY_CLAUSES);
            }
            tokens.step();
            for (int i = 0; i < NUMBERS[form]; i++) {
                if (!readNumber(form, i)) {
                    return false;
                }
            }
            put(form);
            return true;
        }

        private static int formOf(int kind) {
            switch (kind) {
                case DUCHY_WORD: return DUCHY_FORM;
                case HOUSE_WORD: return HOUSE_FORM;
                case LANE_WORD: return LANE_FORM;
                case HAT_WORD: return HAT_FORM;
                case OFFICER_WORD: return OFFICER_FORM;
                case SNOW_WORD: return SNOW_FORM;
                default: return STRANGER;
            }
        }

        private boolean isFull(int form) {
            switch (form) {
                case HOUSE_FORM: return draft.houses >= MOST_HOUSES;
                case LANE_FORM: return draft.lanes >= MOST_LANES;
                case OFFICER_FORM: return draft.officers >= MOST_OFFICERS;
                case SNOW_FORM: return draft.snows >= MOST_SNOWS;
                default: return false;
            }
        }

        private boolean readNumber(int form, int i) {
            if (tokens.kind != NUMBER && tokens.kind != LONG_NUMBER) {
                return fail(CANNOT_STAND);
            }
            int value = tokens.number;
            int told = MOST[form * MOST_NUMBERS + i];
            int most = told == TOLD ? draft.houses - 1 : told;
            boolean tooLittle = form == OFFICER_FORM && i == 1 && value < 1;
            boolean sameHouse = form == LANE_FORM && i == 1 && value == values[0];
            if (tokens.kind == LONG_NUMBER || value > most || tooLittle || sameHouse) {
                return fail(NOT_AS_TOLD);
            }
            values[i] = value;
            tokens.step();
            return true;
        }

        private void put(int form) {
            switch (form) {
                case DUCHY_FORM:
                    draft.tenth = values[0];
                    draft.loss = values[1];
                    draft.freeze = values[2];
                    break;
                case HOUSE_FORM:
                    draft.addHouse(values[0], values[1], values[2]);
                    break;
                case LANE_FORM:
                    draft.addLane(values[0], values[1]);
                    break;
                case HAT_FORM:
                    draft.begin[HIDDEN + values[0]] = values[1];
                    break;
                case OFFICER_FORM:
                    draft.addOfficer(values[0], values[1]);
                    break;
                default:
                    draft.addSnow(values[0]);
                    break;
            }
        }

        private boolean fail(int kind) {
            fault = 1 + 8 * tokens.place + kind;
            return false;
        }
    }

    /**
     * A rule as pieces of code for a stack: 0 and above is a number, from -1 down stand the words
     * that are values, and below those what joins the uppermost ones, as its kind below 0.
     */
    private static final class Rule {
        static final int MOST_CLAUSES = 12;
        private static final int DEEPEST = 64;
        private final int[] code = new int[TAPE_BYTES];
        private int length = 0;
        private final int[] sumFrom = new int[MOST_CLAUSES];
        private final int[] testFrom = new int[MOST_CLAUSES];
        private final int[] behind = new int[MOST_CLAUSES];
        private int clauses = 0;
        private final long[] stack = new long[DEEPEST];

        void clear() {
            length = 0;
            clauses = 0;
        }

        void put(int piece) {
            if (length < TAPE_BYTES) {
                code[length] = piece;
                length++;
            }
        }

        /** What was put since the clause before is its sum. */
        void endSum() {
            if (clauses < MOST_CLAUSES) {
                sumFrom[clauses] = clauses == 0 ? 0 : behind[clauses - 1];
                testFrom[clauses] = length;
            }
        }

        /** What was put since its sum is its test. */
        void endClause() {
            if (clauses < MOST_CLAUSES) {
                behind[clauses] = length;
                clauses++;
            }
        }

        long worth(long[] words) {
            for (int c = 0; c < clauses; c++) {
                boolean holds = testFrom[c] == behind[c] || run(testFrom[c], behind[c], words) != 0;
                if (holds) {
                    return run(sumFrom[c], testFrom[c], words);
                }
            }
            return 0;
        }

        private long run(int from, int to, long[] words) {
            int top = 0;
            for (int i = from; i < to && top < DEEPEST; i++) {
                int piece = code[i];
                if (piece >= 0) {
                    stack[top] = piece;
                    top++;
                } else if (piece >= -VALUE_WORDS) {
                    stack[top] = words[-1 - piece];
                    top++;
                } else if (piece == -NOT && top > 0) {
                    stack[top - 1] = 1 - stack[top - 1];
                } else if (top > 1) {
                    top--;
                    stack[top - 1] = join(-piece, stack[top - 1], stack[top]);
                }
            }
            return top > 0 ? stack[top - 1] : 0;
        }

        private static long join(int kind, long a, long b) {
            switch (kind) {
                case PLUS: return a + b;
                case MINUS: return a - b;
                case TIMES: return a * b;
                case OVER: return b == 0 ? 0 : a / b;
                case REST: return b == 0 ? 0 : a % b;
                case LESS: return a < b ? 1 : 0;
                case AT_MOST: return a <= b ? 1 : 0;
                case EQUAL: return a == b ? 1 : 0;
                case AT_LEAST: return a >= b ? 1 : 0;
                case MORE: return a > b ? 1 : 0;
                case AND: return a & b;
                case OR: return a | b;
                default: return 0;
            }
        }
    }

    /** Reads the text of a rule into a draft. */
    private static final class RuleReader {
        private static final int DEEPEST = 10;
        private static final int MOST_PARTS = 60;
        private final Tokens tokens;
        private Rule draft = new Rule();
        /** Values and facts made of a sign so far. */
        private int parts = 0;
        private int fault = 0;

        RuleReader(Tokens tokens) {
            this.tokens = tokens;
        }

        /** The draft is the caller's then, and there is a new one. */
        Rule handOver() {
            Rule done = draft;
            draft = new Rule();
            return done;
        }

        /** Answers the fault, 0 without. */
        int read() {
            draft.clear();
            parts = 0;
            fault = 0;
            for (int clause = 0; clause <= Rule.MOST_CLAUSES; clause++) {
                if (!readHead(clause) || !readSum()) {
                    return fault;
                }
                draft.endSum();
                if (tokens.kind == IF_WORD) {
                    tokens.step();
                    if (!readTest(0)) {
                        return fault;
                    }
                }
                draft.endClause();
                if (tokens.kind == END) {
                    return 0;
                }
                if (tokens.kind != SEMICOLON) {
                    fail(CANNOT_STAND);
                    return fault;
                }
                tokens.step();
            }
            return fault;
        }

        private boolean readHead(int clause) {
            if (tokens.kind != CALL_WORD) {
                return fail(CANNOT_STAND);
            }
            if (clause >= Rule.MOST_CLAUSES) {
                return fail(TOO_MANY_CLAUSES);
            }
            tokens.step();
            return true;
        }

        private boolean readTest(int depth) {
            if (!readPart(depth)) {
                return false;
            }
            for (int i = 0; i < TAPE_BYTES && tokens.kind == OR; i++) {
                tokens.step();
                if (!readPart(depth)) {
                    return false;
                }
                draft.put(-OR);
            }
            return true;
        }

        private boolean readPart(int depth) {
            if (!readFact(depth)) {
                return false;
            }
            for (int i = 0; i < TAPE_BYTES && tokens.kind == AND; i++) {
                tokens.step();
                if (!readFact(depth)) {
                    return false;
                }
                draft.put(-AND);
            }
            return true;
        }

        private boolean readFact(int depth) {
            int first = tokens.kind;
            if (first == NOT || first == OPEN) {
                return depth < DEEPEST ? readWithin(first, depth + 1) : fail(TOO_DEEP);
            }
            if (!readSum()) {
                return false;
            }
            int sign = tokens.kind;
            if (!readSign() || !readSum()) {
                return false;
            }
            draft.put(-sign);
            return true;
        }

        private boolean readWithin(int opener, int depth) {
            tokens.step();
            if (opener == NOT) {
                if (!readFact(depth)) {
                    return false;
                }
                draft.put(-NOT);
                return true;
            }
            if (!readTest(depth)) {
                return false;
            }
            if (tokens.kind != CLOSE) {
                return fail(CANNOT_STAND);
            }
            tokens.step();
            return true;
        }

        private boolean readSign() {
            switch (tokens.kind) {
                case LESS:
                case AT_MOST:
                case EQUAL:
                case AT_LEAST:
                case MORE:
                    break;
                default:
                    return fail(CANNOT_STAND);
            }
            if (parts >= MOST_PARTS) {
                return fail(TOO_MANY_PARTS);
            }
            parts++;
            tokens.step();
            return true;
        }

        /** + and - wait until the term behind them has ended, since * / and % go first. */
        private boolean readSum() {
            int waiting = NONE;
            if (!readValue()) {
                return false;
            }
            for (int i = 0; i < TAPE_BYTES; i++) {
                int sign = tokens.kind;
                boolean inTerm = sign == TIMES || sign == OVER || sign == REST;
                if (!inTerm && waiting != NONE) {
                    draft.put(-waiting);
                }
                if (!inTerm && sign != PLUS && sign != MINUS) {
                    return true;
                }
                tokens.step();
                if (!readValue()) {
                    return false;
                }
                if (inTerm) {
                    draft.put(-sign);
                } else {
                    waiting = sign;
                }
            }
            return true;
        }

        private boolean readValue() {
            boolean isWord = tokens.kind < VALUE_WORDS;
            if (!isWord && tokens.kind != NUMBER && tokens.kind != LONG_NUMBER) {
                return fail(CANNOT_STAND);
            }
            if (tokens.kind == LONG_NUMBER) {
                return fail(NOT_AS_TOLD);
            }
            if (parts >= MOST_PARTS) {
                return fail(TOO_MANY_PARTS);
            }
            parts++;
            draft.put(isWord ? -1 - tokens.kind : tokens.number);
            tokens.step();
            return true;
        }

        private boolean fail(int kind) {
            fault = 1 + 8 * tokens.place + kind;
            return false;
        }
    }
}
