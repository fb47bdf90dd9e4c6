/**
 * A walk by night from star to star towards a well, told in a text and asked about by calls.
 *
 * Every row and helper is made once, in the constructor, and used again by each call.
 */
public final class StarWalk {
    public static final int BAD = -1, STATE = -2, FULL = -3, NONE = -4;

    private static final int MAX_STARS = 5;
    private static final int MAX_WALKERS = 3;
    private static final int MAX_AIMS = 8;
    private static final int MAX_SEEN = 6;
    private static final int MAX_TAPE = 160;
    private static final int MAX_ROW = 4;
    private static final int MAX_CELLS = 40;
    private static final int MAX_READ = 10;
    private static final int MAX_DRIFT = 30;
    private static final int HOURS = 10;
    private static final int IMAGES = 2;
    private static final int SHEETS = 4;
    private static final int LANES = 3;

    private static final int MAX_WELL = 40;
    private static final int MAX_BROAD = 9;
    private static final int MAX_WATER = 99;
    private static final int MAX_OFF = 6;
    private static final int MAX_SIDE = 99;
    private static final int MAX_THIRST = 40;
    private static final int TENTHS = 10;

    /** Added to a side, which may be below 0, so that no answer is taken for a refusal. */
    private static final int SIDE_BASE = 1000;

    private static final int WIND = 5;
    private static final int REST = 6;
    private static final int AIMS = 7;

    private static final int PLAIN = 0;
    private static final int LAME = 1;
    private static final int TIRED = 2;
    private static final int GUIDE = 3;

    private static final int TEAR_NULL = 1;
    private static final int TEAR_INDEX = 2;
    private static final int TEAR_CAST = 3;
    private static final int TEAR_SIZE = 4;

    private final Tape tape = new Tape();
    private final Night now = new Night();
    private final Trial trial = new Trial();
    private final Search search = new Search();
    private final Odds odds = new Odds();
    private final Place scratch = new Place();
    private final Night[] images = new Night[IMAGES];
    private final boolean[] kept = new boolean[IMAGES];
    private final Sheet[] sheets = new Sheet[SHEETS];
    private int latestFault;
    private int latestTear;

    public StarWalk() {
        for (int k = 0; k < IMAGES; k++) {
            images[k] = new Night();
        }
        for (int k = 0; k < SHEETS; k++) {
            sheets[k] = new Sheet();
        }
    }

    // ---- the text

    public int feed(int c) {
        if (c < 0 || c > 127) {
            return BAD;
        }
        return tape.addByte(c) ? tape.length : FULL;
    }

    public int end(int n) {
        if (n < 0 || n > tape.length) {
            return BAD;
        }
        int had = tape.length;
        tape.length = n;
        return had;
    }

    public int text() {
        int lines = tape.readLines();
        tape.length = 0;
        latestFault = tape.found;
        if (latestFault != 0) {
            return -10 - tape.foundAt;
        }
        now.become(tape.draft);
        for (int k = 0; k < IMAGES; k++) {
            kept[k] = false;
        }
        return lines;
    }

    public int fault() {
        return latestFault;
    }

    public int rule(int what) {
        switch (what) {
            case 0: return now.stars;
            case 1: return now.walkers;
            case 2: return now.inFront;
            case 3: return now.wellMiles;
            case 4: return now.broad;
            case 5: return now.till;
            case 6: return now.place.water;
            case 7: return now.clouds;
            case 8: return now.place.hour;
            case 9: return now.place.miles;
            case 10: return SIDE_BASE + now.place.side;
            case 11: return oneIf(now.isAtWell(now.place));
            case 12: return now.planned;
            default: return BAD;
        }
    }

    public int star(int s, int what) {
        if (!now.hasStar(s)) {
            return BAD;
        }
        switch (what) {
            case 0: return now.from[s];
            case 1: return now.to[s];
            case 2: return now.off[s];
            case 3: return oneIf(now.isKnown(s));
            default: return BAD;
        }
    }

    public int walker(int w) {
        return now.hasWalker(w) ? now.kinds[w] : BAD;
    }

    public int plan(int i) {
        return now.hasPlanned(i) ? now.plannedAims[i] : BAD;
    }

    // ---- what is changed

    public int set(int what, int v) {
        if (what < 2 || what > 6 || !mayBeSet(what, v)) {
            return BAD;
        }
        int was = rule(what);
        switch (what) {
            case 2: now.inFront = v; break;
            case 3: now.wellMiles = v; break;
            case 4: now.broad = v; break;
            case 5: now.till = v; break;
            default: now.place.water = v; break;
        }
        return was;
    }

    private boolean mayBeSet(int what, int v) {
        switch (what) {
            case 2: return now.hasWalker(v);
            case 3: return v >= 1 && v <= MAX_WELL;
            case 4: return v >= 0 && v <= MAX_BROAD;
            case 5: return v >= 0 && v <= HOURS;
            default: return v >= 0 && v <= MAX_WATER;
        }
    }

    public int cloud(int h, boolean is) {
        if (!isHour(h)) {
            return BAD;
        }
        int was = oneIf(now.isCloudy(h));
        now.clouds = withBit(now.clouds, h, is);
        return was;
    }

    public int know(int s, boolean is) {
        if (!now.hasStar(s)) {
            return BAD;
        }
        int was = oneIf(now.isKnown(s));
        now.known = withBit(now.known, s, is);
        return was;
    }

    public int turn(int s, int v) {
        if (!now.hasStar(s) || v < 0 || v > MAX_OFF) {
            return BAD;
        }
        int was = now.off[s];
        now.off[s] = v;
        return was;
    }

    public int teach(int w, int kind) {
        if (!now.hasWalker(w) || kind < PLAIN || kind > GUIDE) {
            return BAD;
        }
        int was = now.kinds[w];
        now.kinds[w] = kind;
        return was;
    }

    public int plans(int aim) {
        if (!now.hasAim(aim)) {
            return BAD;
        }
        return now.addAim(aim) ? now.planned : FULL;
    }

    public int cut(int n) {
        if (n < 0 || n > now.planned) {
            return BAD;
        }
        int had = now.planned;
        now.planned = n;
        return had;
    }

    // ---- by night

    public int pull(int h) {
        return isHour(h) ? now.pullOfRow(h) : BAD;
    }

    public int up(int h) {
        if (!isHour(h)) {
            return BAD;
        }
        int bits = 0;
        for (int s = 0; s < now.stars; s++) {
            bits = withBit(bits, s, now.isStarUp(s, h));
        }
        return bits;
    }

    public int go(int aim) {
        if (!now.hasAim(aim)) {
            return BAD;
        }
        return now.step(now.place, aim) ? now.place.miles : STATE;
    }

    public int runs(int what) {
        if (what < 0 || what > 6) {
            return BAD;
        }
        trial.begin(now);
        trial.walkPlan();
        Place there = trial.night.place;
        switch (what) {
            case 0: return there.miles;
            case 1: return SIDE_BASE + there.side;
            case 2: return there.water;
            case 3: return there.hour;
            case 4: return trial.blindSteps;
            case 5: return oneIf(trial.night.isAtWell(there));
            default: return trial.firstRefused;
        }
    }

    public int next() {
        if (!now.place.canStep()) {
            return STATE;
        }
        int nearest = WIND;
        int side = 0;
        int miles = 0;
        boolean found = false;
        for (int aim = 0; aim <= WIND; aim++) {
            scratch.become(now.place);
            if (now.step(scratch, aim) && (!found || scratch.isBetterThan(side, miles))) {
                found = true;
                nearest = aim;
                side = scratch.side;
                miles = scratch.miles;
            }
        }
        return nearest;
    }

    public int best(int n, int what) {
        if (n < 0 || n > MAX_ROW || what < 0 || (what > 1 && what < 10)) {
            return BAD;
        }
        int i = what - 10;
        if (i >= n) {
            return NONE;
        }
        search.findBest(now, n);
        if (what == 0) {
            return SIDE_BASE + search.bestSide;
        }
        return i >= 0 ? search.bestRow[i] : search.bestMiles;
    }

    // ---- who in front, what to teach, how much water

    public int front(int what) {
        if (!isZeroOrOne(what)) {
            return BAD;
        }
        int nearest = NONE;
        int side = 0;
        for (int w = 0; w < now.walkers; w++) {
            trial.begin(now);
            trial.night.inFront = w;
            trial.walkPlan();
            int then = trial.night.place.side;
            if (nearest == NONE || Math.abs(then) < Math.abs(side)) {
                nearest = w;
                side = then;
            }
        }
        return what == 0 || nearest == NONE ? nearest : SIDE_BASE + side;
    }

    public int lessons(int what) {
        if (!isZeroOrOne(what)) {
            return BAD;
        }
        int fewest = NONE;
        int least = NONE;
        for (int more = 0; more < 1 << now.stars; more++) {
            int size = Integer.bitCount(more);
            boolean isFewer = fewest == NONE || size < fewest;
            if ((more & now.known) == 0 && isFewer && isOnTheWayKnowing(now.known | more)) {
                fewest = size;
                least = more;
            }
        }
        return what == 0 ? fewest : least;
    }

    private boolean isOnTheWayKnowing(int known) {
        trial.begin(now);
        trial.night.known = known;
        trial.walkPlan();
        return trial.night.isWithinBroad(trial.night.place);
    }

    public int thirst() {
        for (int water = 0; water <= MAX_THIRST; water++) {
            trial.begin(now);
            trial.night.place.water = water;
            trial.walkPlan();
            if (trial.firstRefused == NONE) {
                return water;
            }
        }
        return NONE;
    }

    public int weather() {
        if (isAtWellUnder(now.clouds)) {
            return 0;
        }
        int bits = 0;
        for (int h = 0; h < HOURS; h++) {
            bits = withBit(bits, h, isAtWellUnder(now.clouds ^ (1 << h)));
        }
        return bits;
    }

    private boolean isAtWellUnder(int clouds) {
        trial.begin(now);
        trial.night.clouds = clouds;
        trial.walkPlan();
        return trial.night.isAtWell(trial.night.place);
    }

    // ---- clouds by odds

    public long luck(int v, int what) {
        if (v < 0 || v > TENTHS || !isZeroOrOne(what)) {
            return BAD;
        }
        return odds.part(odds.weighAll(now, v, false), now.planned, what);
    }

    public long mean(int v, int what) {
        if (v < 0 || v > TENTHS || !isZeroOrOne(what)) {
            return BAD;
        }
        return odds.part(odds.weighAll(now, v, true), now.planned, what);
    }

    // ---- tracks

    public int see(int n, int side) {
        if (n < 0 || n > MAX_AIMS || side < -MAX_SIDE || side > MAX_SIDE) {
            return BAD;
        }
        if (now.seen >= MAX_SEEN) {
            return FULL;
        }
        now.seenBehind[now.seen] = n;
        now.seenSide[now.seen] = side;
        now.seen++;
        return now.seen;
    }

    public int forget(int n) {
        if (n < 0 || n > now.seen) {
            return BAD;
        }
        int had = now.seen;
        now.seen = n;
        return had;
    }

    public int aims(int i) {
        if (!now.hasPlanned(i)) {
            return BAD;
        }
        int bits = 0;
        for (int aim = 0; aim < AIMS; aim++) {
            if (now.hasAim(aim)) {
                trial.begin(now);
                trial.night.plannedAims[i] = aim;
                bits = withBit(bits, aim, trial.isAllAsSeen());
            }
        }
        return bits;
    }

    public int whose() {
        int bits = 0;
        for (int w = 0; w < now.walkers; w++) {
            trial.begin(now);
            trial.night.inFront = w;
            bits = withBit(bits, w, trial.isAllAsSeen());
        }
        return bits;
    }

    public int fits(int what) {
        if (!isZeroOrOne(what)) {
            return BAD;
        }
        int sets = 0;
        int least = NONE;
        for (int known = 0; known < 1 << now.stars; known++) {
            trial.begin(now);
            trial.night.known = known;
            if (trial.isAllAsSeen()) {
                sets++;
                least = least == NONE ? known : least;
            }
        }
        return what == 0 ? sets : least;
    }

    // ---- by a seed

    public int drift(int seed, int n, int what) {
        if (n < 1 || n > MAX_DRIFT || !isZeroOrOne(what)) {
            return BAD;
        }
        scratch.miles = 0;
        scratch.side = 0;
        int grown = seed;
        for (int i = 0; i < n; i++) {
            grown = grown * 1103515245 + 12345;
            int aim = ((grown >>> 16) & 0x7fff) % AIMS;
            scratch.hour = i % HOURS;
            scratch.water = MAX_WATER;
            now.step(scratch, now.hasAim(aim) ? aim : WIND);
        }
        return what == 0 ? scratch.miles : SIDE_BASE + scratch.side;
    }

    // ---- images, sheets

    public int keep(int k) {
        if (k < 0 || k >= IMAGES) {
            return BAD;
        }
        int was = oneIf(kept[k]);
        images[k].become(now);
        kept[k] = true;
        return was;
    }

    public int back(int k) {
        if (k < 0 || k >= IMAGES) {
            return BAD;
        }
        if (!kept[k]) {
            return STATE;
        }
        now.become(images[k]);
        return now.place.hour;
    }

    public int sheet(int k, int lane, int n) {
        if (!isSheet(k) || !isLane(lane) || n > MAX_CELLS) {
            return BAD;
        }
        if (n < 0) {
            return -10 - TEAR_SIZE;
        }
        sheets[k].renew(lane, n);
        return 1;
    }

    public int lay(int k, int i, int v) {
        if (!isSheet(k)) {
            return BAD;
        }
        Sheet laid = sheets[k];
        int tear = laid.tearAt(laid.lane, i);
        if (tear != 0) {
            return -10 - tear;
        }
        laid.cells[i] = laid.lowest(v);
        return 1;
    }

    public int read(int k, int lane, int f, int n) {
        if (!isSheet(k) || !isLane(lane) || n < 0 || n > MAX_READ) {
            return BAD;
        }
        Sheet from = sheets[k];
        scratch.become(now.place);
        for (int i = 0; i < n; i++) {
            int tear = from.tearAt(lane, f + i);
            if (tear != 0) {
                return endRead(i, tear);
            }
            if (!now.step(scratch, from.cells[f + i])) {
                return -20 - i;
            }
        }
        return endRead(n, 0);
    }

    private int endRead(int steps, int tear) {
        now.place.become(scratch);
        latestTear = tear;
        return steps;
    }

    public int torn() {
        return latestTear;
    }

    public int count(int what) {
        switch (what) {
            case 0: return Integer.bitCount(now.known);
            case 1: return now.seen;
            case 2: return oneIf(kept[0]) + oneIf(kept[1]);
            case 3: return tape.length;
            case 4: return sheets[0].lane == Sheet.NOTHING ? NONE : sheets[0].size;
            default: return BAD;
        }
    }

    private static int oneIf(boolean is) {
        return is ? 1 : 0;
    }

    private static int withBit(int bits, int at, boolean is) {
        return is ? bits | (1 << at) : bits & ~(1 << at);
    }

    private static boolean isZeroOrOne(int what) {
        return what == 0 || what == 1;
    }

    private static boolean isHour(int h) {
        return h >= 0 && h < HOURS;
    }

    private static boolean isSheet(int k) {
        return k >= 0 && k < SHEETS;
    }

    private static boolean isLane(int lane) {
        return lane >= 0 && lane < LANES;
    }

    /** All that a step changes: kept apart from the rest, so that steps can be tried on a copy. */
    private static final class Place {
        int hour;
        int miles;
        int side;
        int water;

        void become(Place other) {
            hour = other.hour;
            miles = other.miles;
            side = other.side;
            water = other.water;
        }

        boolean canStep() {
            return water > 0 && hour < HOURS;
        }

        void pass(int moreMiles, int moreSide, int drunk) {
            hour++;
            miles += moreMiles;
            side += moreSide;
            water = Math.max(0, water - drunk);
        }

        /** Nearer to side 0, or as near and farther on. */
        boolean isBetterThan(int otherSide, int otherMiles) {
            int here = Math.abs(side);
            int there = Math.abs(otherSide);
            return here < there || (here == there && miles > otherMiles);
        }
    }

    /** All that an image holds. */
    private static final class Night {
        final int[] from = new int[MAX_STARS];
        final int[] to = new int[MAX_STARS];
        final int[] off = new int[MAX_STARS];
        int stars;
        int known;
        final int[] kinds = new int[MAX_WALKERS];
        int walkers;
        int inFront;
        int wellMiles;
        int broad;
        int till;
        int clouds;
        final Place place = new Place();
        final int[] plannedAims = new int[MAX_AIMS];
        int planned;
        final int[] seenBehind = new int[MAX_SEEN];
        final int[] seenSide = new int[MAX_SEEN];
        int seen;

        Night() {
            clear();
        }

        void clear() {
            stars = 0;
            known = 0;
            walkers = 0;
            inFront = 0;
            wellMiles = 20;
            broad = 2;
            till = 3;
            clouds = 0;
            place.hour = 0;
            place.miles = 0;
            place.side = 0;
            place.water = 20;
            planned = 0;
            seen = 0;
        }

        void become(Night other) {
            stars = other.stars;
            known = other.known;
            walkers = other.walkers;
            inFront = other.inFront;
            wellMiles = other.wellMiles;
            broad = other.broad;
            till = other.till;
            clouds = other.clouds;
            place.become(other.place);
            planned = other.planned;
            seen = other.seen;
            System.arraycopy(other.from, 0, from, 0, MAX_STARS);
            System.arraycopy(other.to, 0, to, 0, MAX_STARS);
            System.arraycopy(other.off, 0, off, 0, MAX_STARS);
            System.arraycopy(other.kinds, 0, kinds, 0, MAX_WALKERS);
            System.arraycopy(other.plannedAims, 0, plannedAims, 0, MAX_AIMS);
            System.arraycopy(other.seenBehind, 0, seenBehind, 0, MAX_SEEN);
            System.arraycopy(other.seenSide, 0, seenSide, 0, MAX_SEEN);
        }

        boolean hasStar(int s) {
            return s >= 0 && s < stars && s < MAX_STARS;
        }

        boolean hasWalker(int w) {
            return w >= 0 && w < walkers && w < MAX_WALKERS;
        }

        boolean hasPlanned(int i) {
            return i >= 0 && i < planned && i < MAX_AIMS;
        }

        boolean hasAim(int aim) {
            return aim == WIND || aim == REST || hasStar(aim);
        }

        boolean isKnown(int s) {
            return (known >> s & 1) == 1;
        }

        boolean isCloudy(int h) {
            return (clouds >> h & 1) == 1;
        }

        boolean addStar(int first, int last, int hands) {
            if (stars >= MAX_STARS) {
                return false;
            }
            from[stars] = first;
            to[stars] = last;
            off[stars] = hands;
            stars++;
            return true;
        }

        boolean addWalker(int kind) {
            if (walkers >= MAX_WALKERS) {
                return false;
            }
            kinds[walkers] = kind;
            walkers++;
            return true;
        }

        boolean addAim(int aim) {
            if (planned >= MAX_AIMS) {
                return false;
            }
            plannedAims[planned] = aim;
            planned++;
            return true;
        }

        boolean isStarUp(int s, int h) {
            return hasStar(s) && from[s] <= h && h <= to[s] && !isCloudy(h);
        }

        boolean isBlind(int aim, int h) {
            return aim != REST && !isStarUp(aim, h) && h >= till;
        }

        boolean isWithinBroad(Place p) {
            return Math.abs(p.side) <= broad;
        }

        boolean isAtWell(Place p) {
            return p.miles >= wellMiles && isWithinBroad(p);
        }

        private static int pullOfKind(int kind, int h) {
            int plain = h >= 5 ? 1 : 0;
            int lame = plain + 1;
            switch (kind) {
                case PLAIN: return plain;
                case LAME: return lame;
                case TIRED: return lame + h / 4;
                default: return lame / 2;
            }
        }

        int pullOfRow(int h) {
            if (!hasWalker(inFront)) {
                return 0;
            }
            int alone = pullOfKind(kinds[inFront], h);
            // With three, the last one sees the drift and calls.
            return walkers == MAX_WALKERS ? Math.max(0, alone - 1) : alone;
        }

        /** A step of p by an aim; false, and p as it was, where go() would refuse it. */
        boolean step(Place p, int aim) {
            if (!hasAim(aim) || !p.canStep()) {
                return false;
            }
            int drawn = pullOfRow(p.hour);
            if (aim == REST) {
                p.pass(0, 0, 1);
            } else if (isBlind(aim, p.hour)) {
                p.pass(2, 2 * drawn + 1, 2);
            } else if (isStarUp(aim, p.hour)) {
                p.pass(3, drawn + (isKnown(aim) ? 0 : off[aim] - 3), 1);
            } else {
                p.pass(3, drawn + 1, 1);
            }
            return true;
        }
    }

    /** What would be by the plan, on a copy of the night in which one thing may be changed first. */
    private static final class Trial {
        final Night night = new Night();
        private final int[] sides = new int[MAX_AIMS + 1];
        int blindSteps;
        int firstRefused;

        void begin(Night now) {
            night.become(now);
        }

        void walkPlan() {
            Place p = night.place;
            blindSteps = 0;
            firstRefused = NONE;
            sides[0] = p.side;
            for (int i = 0; i < MAX_AIMS && night.hasPlanned(i); i++) {
                int aim = night.plannedAims[i];
                boolean blind = night.isBlind(aim, p.hour);
                if (!night.step(p, aim)) {
                    firstRefused = firstRefused == NONE ? i : firstRefused;
                } else if (blind) {
                    blindSteps++;
                }
                sides[i + 1] = p.side;
            }
        }

        /** Walks the plan and holds it against all that was seen. */
        boolean isAllAsSeen() {
            walkPlan();
            for (int i = 0; i < night.seen && i < MAX_SEEN; i++) {
                int behind = Math.min(night.seenBehind[i], night.planned);
                if (sides[behind] != night.seenSide[i]) {
                    return false;
                }
            }
            return true;
        }
    }

    /** The best row of a few aims, by trying all in the order of their numbers. */
    private static final class Search {
        private final Place[] places = new Place[MAX_ROW + 1];
        private final int[] row = new int[MAX_ROW];
        final int[] bestRow = new int[MAX_ROW];
        int bestSide;
        int bestMiles;
        private boolean found;

        Search() {
            for (int i = 0; i <= MAX_ROW; i++) {
                places[i] = new Place();
            }
        }

        void findBest(Night night, int n) {
            found = false;
            places[0].become(night.place);
            extend(night, 0, n);
        }

        private void extend(Night night, int depth, int n) {
            if (depth >= n || depth >= MAX_ROW) {
                judge(places[depth]);
                return;
            }
            boolean going = true;
            for (int aim = 0; going && aim < AIMS; aim++) {
                if (night.hasAim(aim)) {
                    row[depth] = aim;
                    places[depth + 1].become(places[depth]);
                    // Where one aim can not be none can, and the first by numbers stands for all.
                    going = night.step(places[depth + 1], aim);
                    extend(night, depth + 1, n);
                }
            }
        }

        private void judge(Place p) {
            if (!found || p.isBetterThan(bestSide, bestMiles)) {
                found = true;
                bestSide = p.side;
                bestMiles = p.miles;
                System.arraycopy(row, 0, bestRow, 0, MAX_ROW);
            }
        }
    }

    /**
     * Sums over all clouds that may come, each weighed by its odds. An aim of the plan, whether
     * it can be or is passed over, stands for one hour of ten tenths, so a sum is by ten to the
     * power of the aims.
     */
    private static final class Odds {
        private final Night night = new Night();
        private final Place[] places = new Place[MAX_AIMS + 1];
        private int tenths;
        private boolean ofMiles;

        Odds() {
            for (int i = 0; i <= MAX_AIMS; i++) {
                places[i] = new Place();
            }
        }

        long weighAll(Night now, int v, boolean miles) {
            tenths = v;
            ofMiles = miles;
            night.become(now);
            places[0].become(now.place);
            return weigh(0);
        }

        private long weigh(int i) {
            Place here = places[i];
            if (i >= MAX_AIMS || !night.hasPlanned(i)) {
                return ofMiles ? here.miles : oneIf(night.isAtWell(here));
            }
            Place then = places[i + 1];
            if (!here.canStep()) {
                then.become(here);
                return TENTHS * weigh(i + 1);
            }
            long sum = 0;
            for (int cloudy = 0; cloudy <= 1; cloudy++) {
                int weight = cloudy == 1 ? tenths : TENTHS - tenths;
                if (weight > 0) {
                    then.become(here);
                    night.clouds = withBit(night.clouds, here.hour, cloudy == 1);
                    night.step(then, night.plannedAims[i]);
                    sum += weight * weigh(i + 1);
                }
            }
            return sum;
        }

        /** The numerator (what 0) or denominator of sum by ten to the power, in lowest terms. */
        long part(long sum, int power, int what) {
            long whole = 1;
            for (int i = 0; i < power && i < MAX_AIMS; i++) {
                whole *= TENTHS;
            }
            long shared = divisorOf(sum, whole);
            if (shared == 0) {
                return 0;
            }
            return what == 0 ? sum / shared : whole / shared;
        }

        private static long divisorOf(long a, long b) {
            long larger = a;
            long smaller = b;
            for (int i = 0; i < 1000 && smaller != 0; i++) {
                long left = larger % smaller;
                larger = smaller;
                smaller = left;
            }
            return larger;
        }
    }

    /** The bytes that were fed, read token by token into a draft that counts if no fault is found. */
    private static final class Tape {
        private static final int END = 0;
        private static final int NAME = 1;
        private static final int NUMBER = 2;
        private static final int STOP = 3;
        private static final int BLANK = 4;
        private static final int STRANGE = 5;

        private static final int MAX_FIGURES = 2;

        private static final int NO_TOKEN = 1;
        private static final int MISPLACED = 2;
        private static final int OUT_OF_BOUNDS = 3;
        private static final int AGAIN = 4;
        private static final int TOO_MANY = 5;
        private static final int NO_STAR = 6;

        private static final int WELL_LINE = 1;
        private static final int WIND_LINE = 2;
        private static final int WATER_LINE = 4;
        private static final int PLAN_LINE = 8;

        private final byte[] bytes = new byte[MAX_TAPE];
        int length;
        final Night draft = new Night();
        private int kind;
        private int first;
        private int behind;
        private int value;
        private int linesTold;
        int found;
        int foundAt;

        boolean addByte(int c) {
            if (length >= MAX_TAPE) {
                return false;
            }
            bytes[length] = (byte) c;
            length++;
            return true;
        }

        /** How many lines there are, where found is 0 then. */
        int readLines() {
            draft.clear();
            found = 0;
            foundAt = 0;
            linesTold = 0;
            behind = 0;
            int lines = 0;
            takeToken();
            // No line is shorter than a byte.
            while (found == 0 && kind != END && lines <= MAX_TAPE) {
                readLine();
                lines++;
                takeToken();
            }
            if (found == 0 && namesNoStar()) {
                refuse(NO_STAR, length);
            }
            return lines;
        }

        private boolean namesNoStar() {
            if (draft.known >> draft.stars != 0) {
                return true;
            }
            for (int i = 0; i < MAX_AIMS && draft.hasPlanned(i); i++) {
                if (!draft.hasAim(draft.plannedAims[i])) {
                    return true;
                }
            }
            return false;
        }

        private void refuse(int why, int where) {
            if (found == 0) {
                found = why;
                foundAt = where;
            }
        }

        private void readLine() {
            if (isName("star")) {
                readStar();
            } else if (isName("known")) {
                readKnown();
            } else if (isName("plain")) {
                readWalker(PLAIN);
            } else if (isName("lame")) {
                readWalker(LAME);
            } else if (isName("tired")) {
                readWalker(TIRED);
            } else if (isName("guide")) {
                readWalker(GUIDE);
            } else if (isName("well")) {
                readWell();
            } else if (isName("wind")) {
                readWind();
            } else if (isName("water")) {
                readWater();
            } else if (isName("cloud")) {
                readCloud();
            } else if (isName("plan")) {
                readPlan();
            } else {
                refuse(MISPLACED, first);
            }
        }

        private void readStar() {
            if (draft.stars >= MAX_STARS) {
                refuse(TOO_MANY, first);
            }
            int from = takeNumber(0, HOURS - 1);
            int to = takeNumber(from, HOURS - 1);
            int off = takeNumber(0, MAX_OFF);
            takeStop();
            if (found == 0) {
                draft.addStar(from, to, off);
            }
        }

        private void readKnown() {
            int s = takeNumber(0, MAX_STARS - 1);
            if (found == 0 && draft.isKnown(s)) {
                refuse(AGAIN, first);
            }
            takeStop();
            if (found == 0) {
                draft.known = withBit(draft.known, s, true);
            }
        }

        private void readWalker(int walkerKind) {
            if (draft.walkers >= MAX_WALKERS) {
                refuse(TOO_MANY, first);
            }
            takeStop();
            if (found == 0) {
                draft.addWalker(walkerKind);
            }
        }

        private void readWell() {
            tellOnce(WELL_LINE);
            draft.wellMiles = takeNumber(1, MAX_WELL);
            draft.broad = takeNumber(0, MAX_BROAD);
            takeStop();
        }

        private void readWind() {
            tellOnce(WIND_LINE);
            draft.till = takeNumber(0, HOURS);
            takeStop();
        }

        private void readWater() {
            tellOnce(WATER_LINE);
            draft.place.water = takeNumber(0, MAX_WATER);
            takeStop();
        }

        private void readCloud() {
            int h = takeNumber(0, HOURS - 1);
            if (found == 0 && draft.isCloudy(h)) {
                refuse(AGAIN, first);
            }
            takeStop();
            if (found == 0) {
                draft.clouds = withBit(draft.clouds, h, true);
            }
        }

        private void readPlan() {
            tellOnce(PLAN_LINE);
            takeToken();
            // The ninth aim is refused, so no more rounds than that.
            for (int i = 0; i <= MAX_AIMS && found == 0 && kind == NUMBER; i++) {
                needWithin(0, REST);
                if (found == 0 && !draft.addAim(value)) {
                    refuse(TOO_MANY, first);
                }
                takeToken();
            }
            need(STOP);
        }

        private void tellOnce(int line) {
            if ((linesTold & line) != 0) {
                refuse(AGAIN, first);
            }
            linesTold |= line;
        }

        /** The number that comes next; the least that may stand there, where a fault was found. */
        private int takeNumber(int least, int most) {
            takeToken();
            need(NUMBER);
            needWithin(least, most);
            return found == 0 ? value : least;
        }

        private void takeStop() {
            takeToken();
            need(STOP);
        }

        private void need(int due) {
            if (kind != due) {
                refuse(MISPLACED, first);
            }
        }

        private void needWithin(int least, int most) {
            if (value < least || value > most) {
                refuse(OUT_OF_BOUNDS, first);
            }
        }

        /** Nothing is read behind a fault: the first one met is the one that counts. */
        private void takeToken() {
            if (found != 0) {
                return;
            }
            first = behind;
            for (int i = 0; i < MAX_TAPE && kindOf(byteAt(first)) == BLANK; i++) {
                first++;
            }
            kind = kindOf(byteAt(first));
            behind = kind == END ? first : first + 1;
            value = byteAt(first) - '0';
            boolean isRow = kind == NAME || kind == NUMBER;
            for (int i = 0; i < MAX_TAPE && isRow && kindOf(byteAt(behind)) == kind; i++) {
                value = value * 10 + byteAt(behind) - '0';
                behind++;
            }
            if (kind == STRANGE || (kind == NUMBER && behind - first > MAX_FIGURES)) {
                refuse(NO_TOKEN, first);
            }
        }

        private static int kindOf(int c) {
            if (c >= 'a' && c <= 'z') {
                return NAME;
            }
            if (c >= '0' && c <= '9') {
                return NUMBER;
            }
            switch (c) {
                case -1: return END;
                case ' ': return BLANK;
                case ';': return STOP;
                default: return STRANGE;
            }
        }

        /** The byte at a place; -1, which is no byte, from the end on. */
        private int byteAt(int i) {
            return i >= 0 && i < length && i < MAX_TAPE ? bytes[i] : -1;
        }

        private boolean isName(String name) {
            if (kind != NAME || behind - first != name.length()) {
                return false;
            }
            for (int i = 0; i < name.length(); i++) {
                if (byteAt(first + i) != name.charAt(i)) {
                    return false;
                }
            }
            return true;
        }
    }

    /** A row of cells of one lane, or nothing. */
    private static final class Sheet {
        static final int NOTHING = -1;

        private static final int BYTES = 0;
        private static final int SHORTS = 1;

        int lane = NOTHING;
        int size;
        final int[] cells = new int[MAX_CELLS];

        void renew(int newLane, int newSize) {
            lane = newLane;
            size = newSize;
            for (int i = 0; i < MAX_CELLS; i++) {
                cells[i] = 0;
            }
        }

        /** What the machine would find, were cell i of this, taken as of a lane, touched; or 0. */
        int tearAt(int asLane, int i) {
            if (lane == NOTHING) {
                return TEAR_NULL;
            }
            if (lane != asLane) {
                return TEAR_CAST;
            }
            return i < 0 || i >= size || i >= MAX_CELLS ? TEAR_INDEX : 0;
        }

        int lowest(int v) {
            switch (lane) {
                case BYTES: return (byte) v;
                case SHORTS: return (short) v;
                default: return v;
            }
        }
    }
}
