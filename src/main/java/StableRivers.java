/**
 * Rivers through the stable: dams, stables, meadows and towns that ditches join, and what is washed
 * where when ditches are turned. README.md says how to use it.
 *
 * <p>All calls of one run share one room, so every row that a call needs is made in the constructor
 * and used again: no call makes an object.
 */
public final class StableRivers {
    public static final int UNKNOWN = -1, OUTSIDE = -2, STATE = -3, FULL = -4, NONE = -9;

    private static final int DAM = 0, STABLE = 1, MEADOW = 2, TOWN = 3;
    private static final int MOST_LETTERS = 48, MOST_PLACES = 6, MOST_DITCHES = 6;
    private static final int MOST_BUCKETS = 99, MOST_RAIN = 9, MOST_HOURS = 12;
    private static final int MOST_ACTS = 14, MOST_SEEN = 6, MOST_STEPS = 8;
    private static final int MOST_TURNS = 4, MOST_DAYS = 40, SLOTS = 2, TENTHS = 10;
    private static final int STEP_OF_AN_HOUR = 6;
    private static final int MORE_THAN_ALL_TURNED = 2 * MOST_DITCHES + 1;
    private static final long SEED_FACTOR = 6364136223846793005L, SEED_STEP = 1442695040888963407L;
    private static final int SEED_SHIFT = 33;
    private static final int[] FACTORIALS = {1, 1, 2, 6, 24, 120, 720};

    private final int[] text = new int[MOST_LETTERS];
    private int letters;
    private final Reader reader = new Reader();
    private Land land = new Land();
    private Land draft = new Land();
    private final Stream stream = new Stream();
    private final Scene now = new Scene();
    private final Acts acts = new Acts();
    private final Sightings sightings = new Sightings();
    private final Scene[] slots = new Scene[SLOTS];
    private int keptSlots;
    private long seed;
    private final Scene trial = new Scene();
    private final Scene midway = new Scene();
    private final Scene[] turns = new Scene[MOST_TURNS + 1];
    private final int[] steps = new int[MOST_STEPS];

    public StableRivers() {
        for (int i = 0; i < SLOTS; i++) {
            slots[i] = new Scene();
        }
        for (int i = 0; i <= MOST_TURNS; i++) {
            turns[i] = new Scene();
        }
        now.begin(land);
    }

    // ---- the land

    public int write(int letter) {
        if (letter < 0 || letter > 255) {
            return OUTSIDE;
        }
        if (letters >= MOST_LETTERS) {
            return FULL;
        }
        text[letters] = letter;
        letters++;
        return letters;
    }

    public int wipe() {
        int length = letters;
        letters = 0;
        return length;
    }

    public int fault() {
        return reader.read(draft, text, letters);
    }

    public int land() {
        if (reader.read(draft, text, letters) != NONE) {
            return STATE;
        }
        Land old = land;
        land = draft;
        draft = old;
        now.begin(land);
        acts.forget();
        keptSlots = 0;
        return 10 * land.places + land.ditches;
    }

    public int place(int place, int what) {
        if (!land.hasPlace(place)) {
            return UNKNOWN;
        }
        switch (what) {
            case 0: return land.kind[place];
            case 1: return now.buckets[place];
            case 2: return now.dung[place];
            case 3: return land.measure[place];
            case 4: return now.wetHour[place];
            case 5: return land.leastOpen(place, now.open);
            default: return OUTSIDE;
        }
    }

    public int ditch(int ditch, int what) {
        if (!land.hasDitch(ditch)) {
            return UNKNOWN;
        }
        switch (what) {
            case 0: return land.from[ditch];
            case 1: return land.to[ditch];
            case 2: return now.open >> ditch & 1;
            default: return OUTSIDE;
        }
    }

    // ---- acts

    public int hour() {
        acts.remember(now);
        return stream.pass(land, now, 0);
    }

    public int turn(int ditch) {
        if (!land.hasDitch(ditch)) {
            return UNKNOWN;
        }
        acts.remember(now);
        now.open ^= 1 << ditch;
        return now.open >> ditch & 1;
    }

    public int rain(int place, int k) {
        if (!land.hasPlace(place)) {
            return UNKNOWN;
        }
        if (k < 1 || k > MOST_RAIN) {
            return OUTSIDE;
        }
        if (land.kind[place] != DAM || now.buckets[place] + k > MOST_BUCKETS) {
            return STATE;
        }
        acts.remember(now);
        now.buckets[place] += k;
        return now.buckets[place];
    }

    public int undo() {
        if (acts.size == 0) {
            return STATE;
        }
        acts.takeBack(now);
        return acts.size;
    }

    public int judge(int n, int row) {
        if (n < 1 || n > MOST_STEPS || row < 0 || !readSteps(n, row)) {
            return OUTSIDE;
        }
        trial.copy(now);
        int wet = trial.wetTowns();
        for (int i = 0; i < n; i++) {
            if (!canStep(trial, steps[i]) || trial.wetTowns() != wet) {
                return i;
            }
        }
        return NONE;
    }

    /** Splits the row into its figures, the first step first; false if it has more than n. */
    private boolean readSteps(int n, int row) {
        int rest = row;
        for (int i = n - 1; i >= 0; i--) {
            steps[i] = rest % 10;
            rest /= 10;
        }
        return rest == 0;
    }

    /** Does one told step, if it can be done. */
    private boolean canStep(Scene scene, int step) {
        if (step == STEP_OF_AN_HOUR) {
            stream.pass(land, scene, 0);
            return true;
        }
        if (!land.hasDitch(step)) {
            return false;
        }
        scene.open ^= 1 << step;
        return true;
    }

    // ---- hours ahead

    public int behind(int place, int h, int what) {
        if (!land.hasPlace(place)) {
            return UNKNOWN;
        }
        if (!areHours(h) || what < 0 || what > 1) {
            return OUTSIDE;
        }
        tryTurning(now.open, h);
        return what == 0 ? trial.buckets[place] : trial.dung[place];
    }

    public int by(int turning, int h, int what) {
        if (turning < 0 || turning > land.allDitches() || !areHours(h) || what < 0 || what > 3) {
            return OUTSIDE;
        }
        tryTurning(turning, h);
        switch (what) {
            case 0: return trial.allDung();
            case 1: return trial.wetTowns();
            case 2: return trial.worth(land);
            default: return trial.isDone() ? 1 : 0;
        }
    }

    public int once(int h, boolean many) {
        if (!areHours(h)) {
            return OUTSIDE;
        }
        int turning = fewestTurned(h, 0);
        if (turning == NONE) {
            return NONE;
        }
        return many ? Integer.bitCount(turning ^ now.open) : turning;
    }

    public int twice(int h, int t) {
        if (!areHours(h) || t < 1 || t > h) {
            return OUTSIDE;
        }
        int fewest = MORE_THAN_ALL_TURNED;
        int all = land.allDitches();
        for (int first = 0; first <= all; first++) {
            fewest = fewestBySecond(first, t, h - t, fewest);
        }
        return fewest == MORE_THAN_ALL_TURNED ? NONE : fewest;
    }

    public int richest(int h) {
        if (!areHours(h)) {
            return OUTSIDE;
        }
        int best = NONE;
        int most = -1;
        int all = land.allDitches();
        for (int turning = 0; turning <= all; turning++) {
            tryTurning(turning, h);
            if (trial.isDone() && trial.worth(land) > most) {
                most = trial.worth(land);
                best = turning;
            }
        }
        return best;
    }

    public int barred(int h) {
        if (!areHours(h)) {
            return OUTSIDE;
        }
        int neverClean = land.placesOf(STABLE);
        int all = land.allDitches();
        for (int turning = 0; turning <= all && neverClean != 0; turning++) {
            tryTurning(turning, h);
            neverClean &= trial.withDung();
        }
        return leastBit(neverClean);
    }

    public int free(int ditch, int h) {
        if (!land.hasDitch(ditch)) {
            return UNKNOWN;
        }
        if (!areHours(h)) {
            return OUTSIDE;
        }
        int found = 0;
        int all = land.allDitches();
        for (int turning = 0; turning <= all; turning++) {
            if ((turning >> ditch & 1) == 1) {
                tryTurning(turning, h);
                found += trial.isDone() ? 1 : 0;
            }
        }
        return found;
    }

    public int stuck(int ditch, int h) {
        if (!land.hasDitch(ditch)) {
            return UNKNOWN;
        }
        if (!areHours(h)) {
            return OUTSIDE;
        }
        int held = fewestTurned(h, 1 << ditch);
        if (held == NONE) {
            return NONE;
        }
        int loose = fewestTurned(h, 0);
        return Integer.bitCount(held ^ now.open) - Integer.bitCount(loose ^ now.open);
    }

    private static int leastBit(int places) {
        for (int p = 0; p < MOST_PLACES; p++) {
            if ((places >> p & 1) == 1) {
                return p;
            }
        }
        return NONE;
    }

    private static boolean areHours(int h) {
        return h >= 0 && h <= MOST_HOURS;
    }

    /** The trial becomes what the turning makes of now behind h hours. */
    private void tryTurning(int turning, int h) {
        trial.copy(now);
        trial.open = turning;
        passHours(trial, h, 0);
    }

    private void passHours(Scene scene, int h, int halted) {
        for (int i = 0; i < h; i++) {
            stream.pass(land, scene, halted);
        }
    }

    /** Of turnings that do and leave the held ditches (bits) alone the one that turns fewest. */
    private int fewestTurned(int h, int held) {
        int best = NONE;
        int fewest = MORE_THAN_ALL_TURNED;
        int all = land.allDitches();
        for (int turning = 0; turning <= all; turning++) {
            int turned = turning ^ now.open;
            if ((turned & held) == 0 && Integer.bitCount(turned) < fewest) {
                tryTurning(turning, h);
                if (trial.isDone()) {
                    fewest = Integer.bitCount(turned);
                    best = turning;
                }
            }
        }
        return best;
    }

    /** The fewest turned in all with this first turning, if they are less than the bound, else the bound. */
    private int fewestBySecond(int first, int t, int rest, int bound) {
        int turnedNow = Integer.bitCount(first ^ now.open);
        if (turnedNow >= bound) {
            return bound;
        }
        midway.copy(now);
        midway.open = first;
        passHours(midway, t, 0);
        // A wet town never dries: no second turning could mend this first one.
        if (midway.wetTowns() != 0) {
            return bound;
        }
        int fewest = bound;
        int all = land.allDitches();
        for (int second = 0; second <= all; second++) {
            int turned = turnedNow + Integer.bitCount(first ^ second);
            if (turned < fewest) {
                trial.copy(midway);
                trial.open = second;
                passHours(trial, rest, 0);
                fewest = trial.isDone() ? turned : fewest;
            }
        }
        return fewest;
    }

    // ---- shares, chances

    public int share(int place, int h, boolean upper) {
        if (!land.hasPlace(place)) {
            return UNKNOWN;
        }
        if (!areHours(h)) {
            return OUTSIDE;
        }
        if (land.kind[place] != DAM) {
            return STATE;
        }
        int dams = land.placesOf(DAM);
        int others = dams & ~(1 << place);
        int otherCount = Integer.bitCount(others);
        int sum = 0;
        for (int come = 0; come < 1 << MOST_PLACES; come++) {
            if ((come & ~others) == 0) {
                int ahead = Integer.bitCount(come);
                int orders = FACTORIALS[ahead] * FACTORIALS[otherCount - ahead];
                int less = dungHalting(h, dams & ~come) - dungHalting(h, others & ~come);
                sum += orders * less;
            }
        }
        return fraction(sum, FACTORIALS[otherCount + 1], upper);
    }

    public int chance(int x, int h, boolean upper) {
        if (x < 0 || x > TENTHS || !areHours(h)) {
            return OUTSIDE;
        }
        return overRains(x, h, upper, false);
    }

    public int mean(int x, int h, boolean upper) {
        if (x < 0 || x > TENTHS || !areHours(h)) {
            return OUTSIDE;
        }
        return overRains(x, h, upper, true);
    }

    /** All dung behind h hours when the halted dams (bits of places) let nothing go. */
    private int dungHalting(int h, int halted) {
        trial.copy(now);
        passHours(trial, h, halted);
        return trial.allDung();
    }

    /** The mean, over all sets of dams that it may rain on, of the dung left or of whether it does. */
    private int overRains(int x, int h, boolean upper, boolean ofDung) {
        int dams = land.placesOf(DAM);
        int sum = 0;
        for (int rained = 0; rained < 1 << MOST_PLACES; rained++) {
            int weight = (rained & ~dams) == 0 ? weightOf(rained, dams, x) : 0;
            if (weight > 0) {
                trial.copy(now);
                trial.addOneTo(rained);
                passHours(trial, h, 0);
                int done = trial.isDone() ? 1 : 0;
                sum += weight * (ofDung ? trial.allDung() : done);
            }
        }
        return fraction(sum, power(TENTHS, Integer.bitCount(dams)), upper);
    }

    /** How likely it rains on just these dams, in parts of 10 to the number of dams. */
    private static int weightOf(int rained, int dams, int x) {
        int dry = dams & ~rained;
        return power(x, Integer.bitCount(rained)) * power(TENTHS - x, Integer.bitCount(dry));
    }

    private static int power(int base, int exponent) {
        int product = 1;
        for (int i = 0; i < exponent; i++) {
            product *= base;
        }
        return product;
    }

    /** Above or below of the fraction in least terms; below is 1 or more on the way in. */
    private static int fraction(int above, int below, boolean upper) {
        int divisor = greatestDivisor(above, below);
        if (divisor < 1) {
            return upper ? above : below;
        }
        return upper ? above / divisor : below / divisor;
    }

    private static int greatestDivisor(int a, int b) {
        int larger = Math.abs(a);
        int smaller = Math.abs(b);
        // Each two rounds halve the larger one, so 32 bits are through in 64 rounds.
        for (int i = 0; i < 64 && smaller != 0; i++) {
            int rest = larger % smaller;
            larger = smaller;
            smaller = rest;
        }
        return larger;
    }

    // ---- seen

    public int see(int place, int t, int k) {
        if (!land.hasPlace(place)) {
            return UNKNOWN;
        }
        if (!areHours(t) || k < 0 || k > MOST_BUCKETS) {
            return OUTSIDE;
        }
        if (sightings.size >= MOST_SEEN) {
            return FULL;
        }
        sightings.note(place, t, k);
        return sightings.size;
    }

    public int unsee() {
        int size = sightings.size;
        sightings.size = 0;
        return size;
    }

    public int fit(int what) {
        if (what < 0 || what > 2) {
            return OUTSIDE;
        }
        int found = 0;
        int inAll = land.allDitches();
        int inNone = land.allDitches();
        int all = land.allDitches();
        for (int turning = 0; turning <= all; turning++) {
            if (isAsSeen(turning)) {
                found++;
                inAll &= turning;
                inNone &= ~turning;
            }
        }
        if (what == 0) {
            return found;
        }
        if (found == 0) {
            return NONE;
        }
        return what == 1 ? inAll : inNone;
    }

    private boolean isAsSeen(int turning) {
        trial.copy(now);
        trial.open = turning;
        int last = sightings.lastTime();
        for (int t = 0; t < last; t++) {
            if (!sightings.agree(land, trial, t)) {
                return false;
            }
            stream.pass(land, trial, 0);
        }
        return sightings.agree(land, trial, last);
    }

    // ---- kings, days

    public int kings(int place, int n, boolean first) {
        if (!land.hasPlace(place)) {
            return UNKNOWN;
        }
        if (n < 1 || n > MOST_TURNS) {
            return OUTSIDE;
        }
        if (land.kind[place] != STABLE) {
            return STATE;
        }
        turns[0].copy(now);
        int best = 0;
        int least = leftByMove(place, 0, n, 0);
        for (int move = 1; move <= land.ditches; move++) {
            int left = leftByMove(place, 0, n, move);
            if (left < least) {
                least = left;
                best = move;
            }
        }
        return first ? best : least;
    }

    /** The dung that is left if the king whose turn it is makes this move (0 none, 1 and the ditch). */
    private int leftByMove(int place, int turn, int n, int move) {
        if (turn >= MOST_TURNS) {
            return now.dung[place];
        }
        Scene next = turns[turn + 1];
        next.copy(turns[turn]);
        if (move > 0) {
            next.open ^= 1 << (move - 1);
        }
        stream.pass(land, next, 0);
        return leftFrom(place, turn + 1, n);
    }

    /** The dung that is left by the best play of both kings from this turn on. */
    private int leftFrom(int place, int turn, int n) {
        if (turn >= n || turn >= MOST_TURNS) {
            return turns[turn].dung[place];
        }
        boolean firstKing = turn % 2 == 0;
        int best = leftByMove(place, turn, n, 0);
        for (int move = 1; move <= land.ditches; move++) {
            int left = leftByMove(place, turn, n, move);
            best = firstKing ? Math.min(best, left) : Math.max(best, left);
        }
        return best;
    }

    public long seed(long v) {
        long old = seed;
        seed = v;
        return old;
    }

    public int days(int m) {
        if (m < 1 || m > MOST_DAYS) {
            return OUTSIDE;
        }
        int places = land.places;
        if (places == 0) {
            return 0;
        }
        trial.copy(now);
        for (int i = 0; i < m; i++) {
            seed = seed * SEED_FACTOR + SEED_STEP;
            int place = (int) (seed >>> SEED_SHIFT) % places;
            if (land.kind[place] == DAM && trial.buckets[place] < MOST_BUCKETS) {
                trial.buckets[place]++;
            }
            stream.pass(land, trial, 0);
        }
        return trial.allDung() + 100 * Integer.bitCount(trial.wetTowns());
    }

    // ---- slots

    public int keep(int slot) {
        if (slot < 0 || slot >= SLOTS) {
            return UNKNOWN;
        }
        slots[slot].copy(now);
        keptSlots |= 1 << slot;
        return now.hour;
    }

    public int again(int slot) {
        if (slot < 0 || slot >= SLOTS) {
            return UNKNOWN;
        }
        if ((keptSlots >> slot & 1) == 0) {
            return STATE;
        }
        now.copy(slots[slot]);
        acts.forget();
        return now.hour;
    }

    public int count(int what) {
        switch (what) {
            case 0: return letters;
            case 1: return land.places;
            case 2: return land.ditches;
            case 3: return now.hour;
            case 4: return now.open;
            case 5: return now.allDung();
            case 6: return now.allBuckets();
            case 7: return now.wetTowns();
            case 8: return now.worth(land);
            case 9: return acts.size;
            case 10: return sightings.size;
            default: return OUTSIDE;
        }
    }

    /** What a text tells: places and ditches as they are at the beginning. */
    private static final class Land {
        final int[] kind = new int[MOST_PLACES];
        /** Buckets of a dam, dung of a stable, at the beginning. */
        final int[] stock = new int[MOST_PLACES];
        /** What a dam lets go, what a bucket is worth to a meadow; 0 of others. */
        final int[] measure = new int[MOST_PLACES];
        final int[] from = new int[MOST_DITCHES];
        final int[] to = new int[MOST_DITCHES];
        int openAtFirst;
        int places;
        int ditches;

        void clear() {
            openAtFirst = 0;
            places = 0;
            ditches = 0;
        }

        boolean hasPlace(int p) {
            return p >= 0 && p < places;
        }

        boolean hasDitch(int d) {
            return d >= 0 && d < ditches;
        }

        int allDitches() {
            return (1 << ditches) - 1;
        }

        int placesOf(int wanted) {
            int bits = 0;
            for (int p = 0; p < places; p++) {
                bits |= kind[p] == wanted ? 1 << p : 0;
            }
            return bits;
        }

        int leastOpen(int p, int open) {
            for (int d = 0; d < ditches; d++) {
                if (from[d] == p && (open >> d & 1) == 1) {
                    return d;
                }
            }
            return NONE;
        }

        void addPlace(int newKind, int newStock, int newMeasure) {
            if (places < MOST_PLACES) {
                kind[places] = newKind;
                stock[places] = newStock;
                measure[places] = newMeasure;
                places++;
            }
        }

        /** Every ditch passes here, so from and to always tell places that there are. */
        void addDitch(int a, int b, int open) {
            if (ditches < MOST_DITCHES && canDigTo(a, b)) {
                from[ditches] = a;
                to[ditches] = b;
                openAtFirst |= open << ditches;
                ditches++;
            }
        }

        boolean canDig() {
            if (ditches >= MOST_DITCHES) {
                return false;
            }
            for (int a = 0; a < places; a++) {
                for (int b = 0; b < places; b++) {
                    if (canDigTo(a, b)) {
                        return true;
                    }
                }
            }
            return false;
        }

        boolean canDigFrom(int a) {
            for (int b = 0; b < places; b++) {
                if (canDigTo(a, b)) {
                    return true;
                }
            }
            return false;
        }

        boolean canDigTo(int a, int b) {
            if (!hasPlace(a) || !hasPlace(b) || a == b) {
                return false;
            }
            return (kind[a] == DAM || kind[a] == STABLE) && !isJoined(a, b);
        }

        private boolean isJoined(int a, int b) {
            for (int d = 0; d < ditches; d++) {
                if (from[d] == a && to[d] == b) {
                    return true;
                }
            }
            return false;
        }
    }

    /** Reads a text into a land, letter by letter, so that the first letter that can not be is known. */
    private static final class Reader {
        private static final int AT_R = 0, AT_PART = 1, AT_BUCKETS = 2, AT_RATE = 3, AT_DUNG = 4;
        private static final int AT_WORTH = 5, AT_FROM = 6, AT_TO = 7, AT_OPEN = 8;

        private int stage;
        private int first;
        private int second;

        /** The fault of the text, or NONE: then the land is as it tells. */
        int read(Land land, int[] text, int length) {
            land.clear();
            stage = AT_R;
            for (int i = 0; i < length && i < text.length; i++) {
                if (!fits(land, text[i])) {
                    return i;
                }
                take(land, text[i]);
            }
            return stage == AT_PART ? NONE : length;
        }

        private boolean fits(Land land, int letter) {
            int figure = letter - '0';
            switch (stage) {
                case AT_R: return letter == 'R';
                case AT_PART: return fitsPart(land, letter);
                case AT_BUCKETS:
                case AT_DUNG: return figure >= 0 && figure <= 9;
                case AT_RATE:
                case AT_WORTH: return figure >= 1 && figure <= 9;
                case AT_FROM: return land.canDigFrom(figure);
                case AT_TO: return land.canDigTo(first, figure);
                default: return figure == 0 || figure == 1;
            }
        }

        private boolean fitsPart(Land land, int letter) {
            switch (letter) {
                case 'D':
                case 'S':
                case 'M':
                case 'T': return land.places < MOST_PLACES;
                case 'C': return land.canDig();
                default: return false;
            }
        }

        /** Takes a letter that fits. */
        private void take(Land land, int letter) {
            int figure = letter - '0';
            switch (stage) {
                case AT_R: stage = AT_PART; break;
                case AT_PART: takePart(land, letter); break;
                case AT_BUCKETS: first = figure; stage = AT_RATE; break;
                case AT_RATE: land.addPlace(DAM, first, figure); stage = AT_PART; break;
                case AT_DUNG: land.addPlace(STABLE, figure, 0); stage = AT_PART; break;
                case AT_WORTH: land.addPlace(MEADOW, 0, figure); stage = AT_PART; break;
                case AT_FROM: first = figure; stage = AT_TO; break;
                case AT_TO: second = figure; stage = AT_OPEN; break;
                default: land.addDitch(first, second, figure); stage = AT_PART; break;
            }
        }

        private void takePart(Land land, int letter) {
            switch (letter) {
                case 'D': stage = AT_BUCKETS; break;
                case 'S': stage = AT_DUNG; break;
                case 'M': stage = AT_WORTH; break;
                case 'C': stage = AT_FROM; break;
                default: land.addPlace(TOWN, 0, 0); break;
            }
        }
    }

    /** All that hours, turnings and rain change. Of places that there are not nothing is in it. */
    private static final class Scene {
        final int[] buckets = new int[MOST_PLACES];
        final int[] dung = new int[MOST_PLACES];
        /** The hour at whose end a town was wet first; NONE. */
        final int[] wetHour = new int[MOST_PLACES];
        int open;
        int hour;

        void begin(Land land) {
            for (int p = 0; p < MOST_PLACES; p++) {
                int stock = p < land.places ? land.stock[p] : 0;
                buckets[p] = land.kind[p] == DAM ? stock : 0;
                dung[p] = land.kind[p] == STABLE ? stock : 0;
                wetHour[p] = NONE;
            }
            open = land.openAtFirst;
            hour = 0;
        }

        void copy(Scene other) {
            for (int p = 0; p < MOST_PLACES; p++) {
                buckets[p] = other.buckets[p];
                dung[p] = other.dung[p];
                wetHour[p] = other.wetHour[p];
            }
            open = other.open;
            hour = other.hour;
        }

        void addOneTo(int places) {
            for (int p = 0; p < MOST_PLACES; p++) {
                buckets[p] += places >> p & 1;
            }
        }

        /** Whether a turning that came to this does. */
        boolean isDone() {
            return allDung() == 0 && wetTowns() == 0;
        }

        int allDung() {
            int sum = 0;
            for (int p = 0; p < MOST_PLACES; p++) {
                sum += dung[p];
            }
            return sum;
        }

        int allBuckets() {
            int sum = 0;
            for (int p = 0; p < MOST_PLACES; p++) {
                sum += buckets[p];
            }
            return sum;
        }

        int withDung() {
            int bits = 0;
            for (int p = 0; p < MOST_PLACES; p++) {
                bits |= dung[p] > 0 ? 1 << p : 0;
            }
            return bits;
        }

        int wetTowns() {
            int bits = 0;
            for (int p = 0; p < MOST_PLACES; p++) {
                bits |= wetHour[p] != NONE ? 1 << p : 0;
            }
            return bits;
        }

        int worth(Land land) {
            int sum = 0;
            for (int p = 0; p < land.places; p++) {
                sum += land.kind[p] == MEADOW ? buckets[p] * land.measure[p] : 0;
            }
            return sum;
        }
    }

    /** Lets hours go by. */
    private static final class Stream {
        /** What comes to each place; apart from the scene, since all places let go at once. */
        private final int[] coming = new int[MOST_PLACES];

        /** An hour in which the halted places (bits) let nothing go: how much dung is washed away. */
        int pass(Land land, Scene scene, int halted) {
            int gone = halted;
            for (int d = 0; d < land.ditches; d++) {
                int source = land.from[d];
                // Ditches come in order, so the first open one of a place is its least.
                if ((scene.open >> d & 1) == 1 && (gone >> source & 1) == 0) {
                    gone |= 1 << source;
                    int amount = scene.buckets[source];
                    if (land.kind[source] == DAM) {
                        amount = Math.min(amount, land.measure[source]);
                    }
                    scene.buckets[source] -= amount;
                    coming[land.to[d]] += amount;
                }
            }
            scene.hour++;
            int washed = 0;
            for (int p = 0; p < land.places; p++) {
                if (coming[p] > 0) {
                    washed += arrive(land, scene, p, coming[p]);
                    coming[p] = 0;
                }
            }
            return washed;
        }

        private int arrive(Land land, Scene scene, int p, int amount) {
            scene.buckets[p] += amount;
            if (land.kind[p] == TOWN && scene.wetHour[p] == NONE) {
                scene.wetHour[p] = scene.hour;
            }
            if (land.kind[p] != STABLE) {
                return 0;
            }
            int washed = Math.min(scene.dung[p], amount);
            scene.dung[p] -= washed;
            return washed;
        }
    }

    /** What was ahead of each act, the newest last. */
    private static final class Acts {
        private final Scene[] ahead = new Scene[MOST_ACTS];
        int size;

        Acts() {
            for (int i = 0; i < MOST_ACTS; i++) {
                ahead[i] = new Scene();
            }
        }

        void forget() {
            size = 0;
        }

        void remember(Scene scene) {
            if (size >= MOST_ACTS) {
                dropFirst();
            }
            ahead[size].copy(scene);
            size++;
        }

        private void dropFirst() {
            Scene first = ahead[0];
            for (int i = 1; i < MOST_ACTS; i++) {
                ahead[i - 1] = ahead[i];
            }
            ahead[MOST_ACTS - 1] = first;
            size = MOST_ACTS - 1;
        }

        void takeBack(Scene scene) {
            if (size > 0) {
                size--;
                scene.copy(ahead[size]);
            }
        }
    }

    /** What was seen: that there were so many buckets at a place behind so many hours. */
    private static final class Sightings {
        private final int[] place = new int[MOST_SEEN];
        private final int[] time = new int[MOST_SEEN];
        private final int[] buckets = new int[MOST_SEEN];
        int size;

        void note(int p, int t, int k) {
            if (size < MOST_SEEN) {
                place[size] = p;
                time[size] = t;
                buckets[size] = k;
                size++;
            }
        }

        int lastTime() {
            int last = 0;
            for (int i = 0; i < size; i++) {
                last = Math.max(last, time[i]);
            }
            return last;
        }

        /** Whether all that was seen behind t hours is so in the scene. */
        boolean agree(Land land, Scene scene, int t) {
            for (int i = 0; i < size; i++) {
                if (time[i] == t && land.hasPlace(place[i]) && scene.buckets[place[i]] != buckets[i]) {
                    return false;
                }
            }
            return true;
        }
    }
}
