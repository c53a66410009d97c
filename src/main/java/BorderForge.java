/**
 * The road to the smith at the border: stages with tolls and best horses, riders of kinds, what is
 * ridden and undone, what is foretold, roads as texts, an image, and sheets. The document
 * (../shared/DOC.md) is what counts; the words in capitals here are its words.
 *
 * <p>Every row is made with the object and used again, so that no call makes anything new.
 */
public final class BorderForge {
    public static final int BAD = -1, NOT = -2, FULL = -3, NONE = -4, NULL = -11, CAST = -12, INDEX = -13, SIZE = -14;

    private static final int MOST_STAGES = 8;
    private static final int MOST_RIDERS = 4;
    private static final int MOST_RIDES = 32;
    private static final int PLACES = 9; // the STAGES and the FORGE
    private static final int MOST_COINS = 99;
    private static final int LAST_START = 999;
    private static final int LAST_MINUTE = 9999;
    private static final int MOST_EARLIER = 300;
    private static final int WHEEL = 30;
    private static final int WAIT = 10;
    private static final int SNOW = 5;

    private static final int PLAIN = 0, SNOWED = 1, OLD = 2, BRIDE = 3, BROTHER = 4;
    private static final int KINDS = 5;

    private static final int SHEETS = 4;
    private static final int LANES = 4;
    private static final int MOST_ITEMS = 24;

    private final Race now = new Race();
    private final Past past = new Past();
    private final Race imageRace = new Race();
    private final Past imagePast = new Past();
    private boolean imaged = false;
    private final Foretelling foretold = new Foretelling();
    private final Tape tape = new Tape();
    private final Page[] pages = {new Page(), new Page(), new Page(), new Page()};
    private final int[] duelMine = new int[PLACES * PLACES];
    private final int[] duelTheirs = new int[PLACES * PLACES];

    public BorderForge() {
    }

    // ---- 1 stages, riders

    public int stage(int miles, int toll, int horses) {
        if (!within(miles, 1, 9) || !within(toll, 0, 9) || !within(horses, 0, 4)) {
            return BAD;
        }
        if (now.stages >= MOST_STAGES) {
            return FULL;
        }
        past.forget();
        return now.addStage(miles, toll, horses);
    }

    public int rider(int kind, int start, int coins) {
        if (!within(kind, 0, KINDS - 1) || !within(start, 0, LAST_START) || !within(coins, 0, MOST_COINS)) {
            return BAD;
        }
        if (now.riders >= MOST_RIDERS) {
            return FULL;
        }
        past.forget();
        return now.addRider(kind, start, coins);
    }

    public int of(int stage, int what) {
        if (!within(stage, 0, now.stages - 1)) {
            return BAD;
        }
        switch (what) {
            case 0:
                return now.miles[stage];
            case 1:
                return now.toll[stage];
            case 2:
                return now.horses[stage];
            default:
                return BAD;
        }
    }

    public int at(int rider, int what) {
        if (!isRider(rider)) {
            return BAD;
        }
        switch (what) {
            case 0:
                return now.kind[rider];
            case 1:
                return now.behind[rider];
            case 2:
                return now.minute[rider];
            case 3:
                return now.coins[rider];
            case 4:
                return now.buying[rider];
            case 5:
                return stageTakes(rider, true);
            case 6:
                return stageTakes(rider, false);
            default:
                return BAD;
        }
    }

    public int buys(int rider, int set) {
        if (!isRider(rider) || !within(set, 0, (1 << now.stages) - 1)) {
            return BAD;
        }
        int before = now.buying[rider];
        now.buying[rider] = set;
        return before;
    }

    public int price(int v) {
        if (!within(v, 1, 9)) {
            return BAD;
        }
        int before = now.price;
        now.price = v;
        return before;
    }

    public int type(int letter) {
        if (!within(letter, 32, 126)) {
            return BAD;
        }
        return tape.isFull() ? FULL : tape.append(letter);
    }

    public int road() {
        int answer = tape.readRoad();
        if (answer >= 0) {
            now.takeRoad(tape.draft);
            past.forget();
        }
        return answer;
    }

    public int count(int what) {
        switch (what) {
            case 0:
                return now.stages;
            case 1:
                return now.riders;
            case 2:
                return now.price;
            case 3:
                return now.whoIsThere();
            case 4:
                return now.whoRides();
            case 5:
                return sumOf(now.coins, now.riders);
            case 6:
                return sumOf(now.horses, now.stages);
            case 7:
                return past.known;
            default:
                return BAD;
        }
    }

    // ---- what is done

    public int ride(int n) {
        if (!within(n, 1, MOST_RIDES)) {
            return BAD;
        }
        if (now.whoRides() < 0) {
            return NOT;
        }
        int ridden = 0;
        for (int k = 0; k < n; k++) {
            int who = now.whoRides();
            if (who < 0) {
                break;
            }
            past.mark(now);
            now.rideStage(who, 0);
            ridden++;
        }
        return ridden;
    }

    public int wheel(int rider) {
        if (!isRider(rider)) {
            return BAD;
        }
        if (now.isThere(rider)) {
            return NOT;
        }
        past.mark(now);
        now.minute[rider] += WHEEL;
        return now.minute[rider];
    }

    public int give(int rider, int other, int n) {
        if (!areTwo(rider, other) || !within(n, 1, MOST_COINS)) {
            return BAD;
        }
        if (now.coins[rider] < n) {
            return NOT;
        }
        past.mark(now);
        now.coins[rider] -= n;
        now.coins[other] = Math.min(MOST_COINS, now.coins[other] + n);
        return now.coins[other];
    }

    public int drift(int n) {
        if (!within(n, 1, MOST_RIDES)) {
            return BAD;
        }
        if (now.whoRides() < 0) {
            return NOT;
        }
        int wheels = 0;
        for (int k = 0; k < n; k++) {
            int who = now.whoRides();
            if (who < 0) {
                break;
            }
            past.mark(now);
            boolean off = now.drawWheel();
            now.rideStage(who, off ? WHEEL : 0);
            wheels += off ? 1 : 0;
        }
        return wheels;
    }

    public int undo() {
        if (past.known == 0) {
            return NONE;
        }
        past.goBack(now);
        return past.known;
    }

    public int seed(int v) {
        if (v < 0) {
            return BAD;
        }
        int before = now.draw;
        now.draw = v;
        return before;
    }

    // ---- 2 foretold

    public int ahead(int rider, int what) {
        if (!isRider(rider) || !isZeroOrOne(what)) {
            return BAD;
        }
        foretold.begin(now);
        int minute = foretold.rideToForge(rider, 0);
        return what == 0 ? minute : foretold.trial.coins[rider];
    }

    public int comes(int rider, int stage) {
        if (!isRider(rider) || !within(stage, 0, now.stages)) {
            return BAD;
        }
        if (stage < now.behind[rider]) {
            return NONE;
        }
        foretold.begin(now);
        foretold.rideToForge(rider, 0);
        return foretold.cameTo(rider, stage);
    }

    public int first() {
        foretold.begin(now);
        return foretold.whoIsFirst();
    }

    public int caught(int rider, int other) {
        if (!areTwo(rider, other)) {
            return BAD;
        }
        foretold.begin(now);
        foretold.rideToForge(rider, 0);
        foretold.rideToForge(other, 0);
        int from = Math.max(1, Math.max(now.behind[rider], now.behind[other]));
        for (int s = from; s <= now.stages; s++) {
            if (foretold.cameTo(other, s) <= foretold.cameTo(rider, s)) {
                return s;
            }
        }
        return NONE;
    }

    public int best(int rider, int what) {
        if (!isRider(rider) || !isZeroOrOne(what)) {
            return BAD;
        }
        int set = soonestSet(rider);
        return what == 0 ? set : minuteBuying(rider, set);
    }

    public int earlier(int rider, int other) {
        if (!areTwo(rider, other)) {
            return BAD;
        }
        int most = Math.min(MOST_EARLIER, now.minute[rider]);
        for (int less = 0; less <= most; less++) {
            foretold.begin(now);
            foretold.trial.minute[rider] -= less;
            if (foretold.rideToForge(rider, 0) < foretold.rideToForge(other, 0)) {
                return less;
            }
        }
        return NONE;
    }

    public int purse(int rider, int minute) {
        if (!isRider(rider) || !within(minute, 0, LAST_MINUTE)) {
            return BAD;
        }
        for (int coins = 0; coins <= MOST_COINS; coins++) {
            foretold.begin(now);
            foretold.trial.coins[rider] = coins;
            if (foretold.rideToForge(rider, 0) <= minute) {
                return coins;
            }
        }
        return NONE;
    }

    public int loosened(int rider, int what) {
        if (!isRider(rider) || !isZeroOrOne(what)) {
            return BAD;
        }
        int worst = NONE;
        int latest = NONE;
        for (int s = now.behind[rider]; s < now.stages; s++) {
            foretold.begin(now);
            int minute = foretold.rideToForge(rider, 1 << s);
            if (minute > latest) {
                latest = minute;
                worst = s;
            }
        }
        return what == 0 ? worst : latest;
    }

    public int duel(int rider, int other, int what) {
        if (!areTwo(rider, other) || !isZeroOrOne(what)) {
            return BAD;
        }
        fillDuel(rider, other);
        int resting = 0;
        int firstRow = NONE;
        for (int i = 0; i <= now.stages; i++) {
            for (int j = 0; j <= now.stages; j++) {
                if (isRest(i, j)) {
                    firstRow = resting == 0 ? 100 * i + j : firstRow;
                    resting++;
                }
            }
        }
        return what == 0 ? resting : firstRow;
    }

    public int luck(int rider, int c, int what) {
        if (!isRider(rider) || !within(c, 0, 10) || !isZeroOrOne(what)) {
            return BAD;
        }
        int left = now.stages - now.behind[rider];
        int above = 0;
        int below = 1;
        for (int k = 0; k < left; k++) {
            below *= 10;
        }
        for (int off = 0; off < 1 << left; off++) {
            int ways = waysOf(off, left, c);
            // what can't happen need not be ridden
            if (ways > 0 && isFirstWith(rider, off << now.behind[rider])) {
                above += ways;
            }
        }
        int shared = Math.max(1, sharedDivisor(above, below));
        return (what == 0 ? above : below) / shared;
    }

    public int image() {
        imageRace.takeAll(now);
        imagePast.takeAll(past);
        imaged = true;
        return 1;
    }

    public int restore() {
        if (!imaged) {
            return NONE;
        }
        now.takeAll(imageRace);
        past.takeAll(imagePast);
        return 1;
    }

    // ---- 3 sheets

    public int passed(int rider, int sheet, int lane, int i, int n) {
        int fault = rowFault(rider, sheet, lane, i, n);
        if (fault < 0) {
            return fault;
        }
        int kinds = 0;
        for (int kind = 0; kind < KINDS; kind++) {
            foretold.begin(now);
            foretold.trial.kind[rider] = kind;
            foretold.rideToForge(rider, 0);
            if (isTold(rider, pages[sheet], i, n)) {
                kinds |= 1 << kind;
            }
        }
        return kinds;
    }

    public int film(int rider, int n, int sheet, int lane, int i) {
        int fault = rowFault(rider, sheet, lane, i, n);
        if (fault < 0) {
            return fault;
        }
        foretold.begin(now);
        foretold.rideToForge(rider, 0);
        int next = now.behind[rider] + 1;
        for (int k = 0; k < n; k++) {
            pages[sheet].put(i + k, foretold.cameTo(rider, next + k));
        }
        return n;
    }

    public int sheet(int sheet, int lane, int n) {
        if (!isSheet(sheet) || !isLane(lane) || n > MOST_ITEMS) {
            return BAD;
        }
        if (n < 0) {
            return SIZE;
        }
        pages[sheet].lay(lane, n);
        return n;
    }

    public int drop(int sheet) {
        if (!isSheet(sheet)) {
            return BAD;
        }
        return pages[sheet].isMissing() ? NULL : pages[sheet].clear();
    }

    public int item(int sheet, int lane, int i, long v) {
        if (!isSheet(sheet) || !isLane(lane)) {
            return BAD;
        }
        int fault = pages[sheet].faultOf(lane, i, 1);
        if (fault < 0) {
            return fault;
        }
        pages[sheet].put(i, v);
        return 1;
    }

    public int copy(int from, int i, int to, int j, int n) {
        if (!isSheet(from) || !isSheet(to)) {
            return BAD;
        }
        Page source = pages[from];
        Page target = pages[to];
        if (source.isMissing() || target.isMissing()) {
            return NULL;
        }
        if (source.lane != target.lane) {
            return CAST;
        }
        if (!source.holds(i, n) || !target.holds(j, n)) {
            return INDEX;
        }
        System.arraycopy(source.items, i, target.items, j, n);
        return n;
    }

    // ---- what the calls share

    private static boolean within(int v, int least, int most) {
        return v >= least && v <= most;
    }

    private static boolean isZeroOrOne(int what) {
        return within(what, 0, 1);
    }

    private static boolean isSheet(int sheet) {
        return within(sheet, 0, SHEETS - 1);
    }

    private static boolean isLane(int lane) {
        return within(lane, 0, LANES - 1);
    }

    private boolean isRider(int rider) {
        return within(rider, 0, now.riders - 1);
    }

    private boolean areTwo(int rider, int other) {
        return isRider(rider) && isRider(other) && rider != other;
    }

    private static boolean has(int set, int stage) {
        return (set >> stage & 1) != 0;
    }

    private static int sumOf(int[] row, int n) {
        int sum = 0;
        for (int k = 0; k < n; k++) {
            sum += row[k];
        }
        return sum;
    }

    private int stageTakes(int rider, boolean onBest) {
        if (now.isThere(rider)) {
            return NONE;
        }
        return minutesFor(now.kind[rider], now.miles[now.behind[rider]], onBest);
    }

    private static int minutesFor(int kind, int miles, boolean onBest) {
        int mile = onBest ? 6 : 10;
        int plain = miles * mile;
        int old = plain + plain / 2;
        switch (kind) {
            case SNOWED:
                return plain + SNOW;
            case OLD:
                return old;
            case BRIDE:
                return onBest ? plain : old;
            case BROTHER:
                return plain - mile + SNOW;
            default:
                return plain;
        }
    }

    // ---- BEST, DUEL, LUCK

    private int minuteBuying(int rider, int set) {
        foretold.begin(now);
        foretold.trial.buying[rider] = set;
        return foretold.rideToForge(rider, 0);
    }

    /** Only sets of STAGES ahead are tried: one behind changes no MINUTE, and makes a set larger. */
    private int soonestSet(int rider) {
        int behind = now.behind[rider];
        int best = 0;
        int soonest = minuteBuying(rider, 0);
        for (int some = 1; some < 1 << (now.stages - behind); some++) {
            int set = some << behind;
            int minute = minuteBuying(rider, set);
            boolean fewer = Integer.bitCount(set) < Integer.bitCount(best);
            if (minute < soonest || minute == soonest && fewer) {
                soonest = minute;
                best = set;
            }
        }
        return best;
    }

    /** Rows and columns are 0 for none, and one more than the STAGE else. */
    private void fillDuel(int rider, int other) {
        for (int i = 0; i <= now.stages; i++) {
            for (int j = 0; j <= now.stages; j++) {
                foretold.begin(now);
                foretold.trial.buying[rider] = 1 << i >> 1;
                foretold.trial.buying[other] = 1 << j >> 1;
                duelMine[i * PLACES + j] = foretold.rideToForge(rider, 0);
                duelTheirs[i * PLACES + j] = foretold.rideToForge(other, 0);
            }
        }
    }

    private boolean isRest(int i, int j) {
        int row = i * PLACES + j;
        for (int k = 0; k <= now.stages; k++) {
            if (duelMine[k * PLACES + j] < duelMine[row] || duelTheirs[i * PLACES + k] < duelTheirs[row]) {
                return false;
            }
        }
        return true;
    }

    private boolean isFirstWith(int rider, int wheels) {
        foretold.begin(now);
        foretold.rideToForge(rider, wheels);
        return foretold.whoIsFirst() == rider;
    }

    /** Of 10 times 10 .. ways: in how many just these wheels are off. */
    private static int waysOf(int off, int left, int c) {
        int ways = 1;
        for (int k = 0; k < left; k++) {
            ways *= has(off, k) ? c : 10 - c;
        }
        return ways;
    }

    private static int sharedDivisor(int a, int b) {
        int x = a;
        int y = b;
        // numbers of 31 bits need fewer than 64 rounds
        for (int k = 0; k < 64 && y != 0; k++) {
            int rest = x % y;
            x = y;
            y = rest;
        }
        return x;
    }

    // ---- rows of sheets

    private int rowFault(int rider, int sheet, int lane, int i, int n) {
        if (!isRider(rider) || !isSheet(sheet) || !isLane(lane) || !within(n, 1, MOST_STAGES)) {
            return BAD;
        }
        int fault = pages[sheet].faultOf(lane, i, n);
        if (fault < 0) {
            return fault;
        }
        return n > now.stages - now.behind[rider] ? NOT : 0;
    }

    private boolean isTold(int rider, Page page, int i, int n) {
        int next = now.behind[rider] + 1;
        for (int k = 0; k < n; k++) {
            if (page.items[i + k] != foretold.cameTo(rider, next + k)) {
                return false;
            }
        }
        return true;
    }

    /** THE ROAD, its RIDERS, PRICE and THE DRAW: as they are, in an IMAGE, or on trial. */
    private static final class Race {
        static final int MOVING = 21; // numbers that a STAGE ridden, a wheel off, COINS given may change

        int stages = 0;
        int riders = 0;
        int price = 3;
        int draw = 1;
        final int[] miles = new int[MOST_STAGES];
        final int[] toll = new int[MOST_STAGES];
        final int[] horses = new int[MOST_STAGES];
        final int[] kind = new int[MOST_RIDERS];
        final int[] behind = new int[MOST_RIDERS];
        final int[] minute = new int[MOST_RIDERS];
        final int[] coins = new int[MOST_RIDERS];
        final int[] buying = new int[MOST_RIDERS];

        void takeAll(Race other) {
            takeRoad(other);
            price = other.price;
            draw = other.draw;
        }

        void takeRoad(Race other) {
            stages = other.stages;
            riders = other.riders;
            System.arraycopy(other.miles, 0, miles, 0, MOST_STAGES);
            System.arraycopy(other.toll, 0, toll, 0, MOST_STAGES);
            System.arraycopy(other.horses, 0, horses, 0, MOST_STAGES);
            System.arraycopy(other.kind, 0, kind, 0, MOST_RIDERS);
            System.arraycopy(other.behind, 0, behind, 0, MOST_RIDERS);
            System.arraycopy(other.minute, 0, minute, 0, MOST_RIDERS);
            System.arraycopy(other.coins, 0, coins, 0, MOST_RIDERS);
            System.arraycopy(other.buying, 0, buying, 0, MOST_RIDERS);
        }

        void writeMoving(int[] row, int from) {
            System.arraycopy(behind, 0, row, from, MOST_RIDERS);
            System.arraycopy(minute, 0, row, from + 4, MOST_RIDERS);
            System.arraycopy(coins, 0, row, from + 8, MOST_RIDERS);
            System.arraycopy(horses, 0, row, from + 12, MOST_STAGES);
            row[from + 20] = draw;
        }

        void readMoving(int[] row, int from) {
            System.arraycopy(row, from, behind, 0, MOST_RIDERS);
            System.arraycopy(row, from + 4, minute, 0, MOST_RIDERS);
            System.arraycopy(row, from + 8, coins, 0, MOST_RIDERS);
            System.arraycopy(row, from + 12, horses, 0, MOST_STAGES);
            draw = row[from + 20];
        }

        /** Whoever calls it has looked that one more goes in. */
        int addStage(int ofMiles, int ofToll, int ofHorses) {
            miles[stages] = ofMiles;
            toll[stages] = ofToll;
            horses[stages] = ofHorses;
            stages++;
            return stages - 1;
        }

        /** Whoever calls it has looked that one more goes in. */
        int addRider(int ofKind, int start, int ofCoins) {
            kind[riders] = ofKind;
            behind[riders] = 0;
            minute[riders] = start;
            coins[riders] = ofCoins;
            buying[riders] = 0;
            riders++;
            return riders - 1;
        }

        boolean isThere(int rider) {
            return behind[rider] >= stages;
        }

        int whoIsThere() {
            int set = 0;
            for (int r = 0; r < riders; r++) {
                set |= isThere(r) ? 1 << r : 0;
            }
            return set;
        }

        int whoRides() {
            int who = NONE;
            for (int r = 0; r < riders; r++) {
                if (!isThere(r) && (who < 0 || minute[r] < minute[who])) {
                    who = r;
                }
            }
            return who;
        }

        /** Whoever calls it has looked that one is not at the FORGE. */
        void rideStage(int rider, int more) {
            int s = behind[rider];
            boolean onBest = has(buying[rider], s) && horses[s] > 0 && coins[rider] >= price;
            if (onBest) {
                coins[rider] -= price;
                horses[s]--;
            }
            if (coins[rider] >= toll[s]) {
                coins[rider] -= toll[s];
            } else {
                minute[rider] += WAIT;
            }
            minute[rider] += minutesFor(kind[rider], miles[s], onBest) + more;
            behind[rider] = s + 1;
        }

        boolean drawWheel() {
            draw = (draw * 1103515245 + 12345) & 0x7fffffff;
            return draw / 65536 % 6 == 0;
        }
    }

    /** What may be UNDONE: the last 8 times, in a ring, so that the oldest gives way. */
    private static final class Past {
        private static final int MOST = 8;

        int known = 0;
        private int next = 0;
        private final int[] marks = new int[MOST * Race.MOVING];

        void forget() {
            known = 0;
        }

        void mark(Race race) {
            race.writeMoving(marks, next * Race.MOVING);
            next = (next + 1) % MOST;
            known = Math.min(MOST, known + 1);
        }

        /** Whoever calls it has looked that one is known. */
        void goBack(Race race) {
            next = (next + MOST - 1) % MOST;
            known--;
            race.readMoving(marks, next * Race.MOVING);
        }

        void takeAll(Past other) {
            known = other.known;
            next = other.next;
            System.arraycopy(other.marks, 0, marks, 0, marks.length);
        }
    }

    /** A trial of what comes: begun from how all is now, changed at will, then ridden on. */
    private static final class Foretelling {
        final Race trial = new Race();
        private final int[] came = new int[MOST_RIDERS * PLACES];

        void begin(Race race) {
            trial.takeAll(race);
            for (int r = 0; r < trial.riders; r++) {
                noteWhere(r);
            }
        }

        /**
         * All ride till one is at the FORGE: its MINUTE. Its wheels are off at a set of STAGES. The
         * ride can go on for another one; what was noted of the first stays.
         */
        int rideToForge(int rider, int wheels) {
            for (int k = 0; k < MOST_RIDES && !trial.isThere(rider); k++) {
                int who = trial.whoRides();
                if (who < 0) {
                    break;
                }
                boolean off = who == rider && has(wheels, trial.behind[who]);
                trial.rideStage(who, off ? WHEEL : 0);
                noteWhere(who);
            }
            return trial.minute[rider];
        }

        int whoIsFirst() {
            int who = NONE;
            int soonest = 0;
            for (int r = 0; r < trial.riders; r++) {
                int minute = rideToForge(r, 0);
                if (who < 0 || minute < soonest) {
                    who = r;
                    soonest = minute;
                }
            }
            return who;
        }

        int cameTo(int rider, int stage) {
            return came[rider * PLACES + stage];
        }

        private void noteWhere(int rider) {
            came[rider * PLACES + trial.behind[rider]] = trial.minute[rider];
        }
    }

    /** THE TAPE, and how it is read as a ROAD: the place stays at the letter that can't stand there. */
    private static final class Tape {
        private static final int MOST = 90;
        private static final int FAULTS = -20;
        private static final int END = 0;

        final Race draft = new Race();
        private final int[] letters = new int[MOST];
        private int length = 0;
        private int place = 0;

        boolean isFull() {
            return length >= MOST;
        }

        /** Whoever calls it has looked that one more goes in. */
        int append(int letter) {
            letters[length] = letter;
            length++;
            return length;
        }

        /** How many RIDERS, or a FAULT; THE TAPE is empty then. */
        int readRoad() {
            place = 0;
            draft.stages = 0;
            draft.riders = 0;
            int answer = readStages() && readRiders() ? draft.riders : FAULTS - place;
            length = 0;
            return answer;
        }

        private boolean readStages() {
            for (int s = 0; s < MOST_STAGES; s++) {
                if (!readStage()) {
                    return false;
                }
                if (takes(';')) {
                    return true;
                }
                // behind the last one that goes in, no , can stand
                if (s == MOST_STAGES - 1 || !takes(',')) {
                    return false;
                }
            }
            return false;
        }

        private boolean readStage() {
            int miles = readDigit(1, 9);
            int toll = miles < 0 ? BAD : readDigit(0, 9);
            int horses = toll < 0 ? BAD : readDigit(0, 4);
            if (horses < 0) {
                return false;
            }
            draft.addStage(miles, toll, horses);
            return true;
        }

        private boolean readRiders() {
            for (int r = 0; r < MOST_RIDERS; r++) {
                if (!readRider()) {
                    return false;
                }
                if (letterHere() == END) {
                    return true;
                }
                if (r == MOST_RIDERS - 1 || !takes(',')) {
                    return false;
                }
            }
            return false;
        }

        private boolean readRider() {
            int kind = kindOf(letterHere());
            if (kind < 0) {
                return false;
            }
            place++;
            int start = readNumber(LAST_START);
            if (start < 0 || !takes('/')) {
                return false;
            }
            int coins = readNumber(MOST_COINS);
            if (coins < 0) {
                return false;
            }
            int rider = draft.addRider(kind, start, coins);
            return !takes(':') || readBuying(rider);
        }

        /** A digit that does not rise is left: it can't stand where a , or the end is due. */
        private boolean readBuying(int rider) {
            int set = 0;
            int least = 0;
            for (int k = 0; k < MOST_STAGES; k++) {
                int s = readDigit(least, draft.stages - 1);
                if (s < 0) {
                    break;
                }
                set |= 1 << s;
                least = s + 1;
            }
            draft.buying[rider] = set;
            return set != 0;
        }

        private int readDigit(int least, int most) {
            int v = letterHere() - '0';
            if (!within(v, least, most)) {
                return BAD;
            }
            place++;
            return v;
        }

        private int readNumber(int most) {
            int v = readDigit(0, 9);
            int from = place - 1;
            // blanks end a number: they are not skipped here
            for (int k = 1; v >= 0 && k < 3 && place < length && within(letters[place], '0', '9'); k++) {
                v = 10 * v + letters[place] - '0';
                place++;
            }
            if (v > most) {
                place = from;
                return BAD;
            }
            return v;
        }

        private boolean takes(int letter) {
            if (letterHere() != letter) {
                return false;
            }
            place++;
            return true;
        }

        /** The letter behind blanks, to which the place moves. */
        private int letterHere() {
            while (place < length && letters[place] == ' ') {
                place++;
            }
            return place < length ? letters[place] : END;
        }

        private static int kindOf(int letter) {
            switch (letter) {
                case 'p':
                    return PLAIN;
                case 's':
                    return SNOWED;
                case 'o':
                    return OLD;
                case 'b':
                    return BRIDE;
                case 'r':
                    return BROTHER;
                default:
                    return BAD;
            }
        }
    }

    /** A SHEET: nothing, or a row of a LANE, whose items are kept as wide as that LANE is. */
    private static final class Page {
        private static final int NOTHING = -1;

        int lane = NOTHING;
        private int length = 0;
        final long[] items = new long[MOST_ITEMS];

        boolean isMissing() {
            return lane == NOTHING;
        }

        void lay(int newLane, int n) {
            lane = newLane;
            length = n;
            for (int k = 0; k < MOST_ITEMS; k++) {
                items[k] = 0;
            }
        }

        int clear() {
            lane = NOTHING;
            return length;
        }

        boolean holds(int i, int n) {
            return i >= 0 && n >= 0 && n <= length - i;
        }

        int faultOf(int asLane, int i, int n) {
            if (isMissing()) {
                return NULL;
            }
            if (lane != asLane) {
                return CAST;
            }
            return holds(i, n) ? 0 : INDEX;
        }

        /** Whoever calls it has looked that the row holds i. */
        void put(int i, long v) {
            switch (lane) {
                case 0:
                    items[i] = (byte) v;
                    break;
                case 1:
                    items[i] = (short) v;
                    break;
                case 2:
                    items[i] = (int) v;
                    break;
                default:
                    items[i] = v;
                    break;
            }
        }
    }
}
