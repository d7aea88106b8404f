import java.util.Arrays;

/** A passage of yards and the bodies that would go through it; DOC.md says what each call promises. */
public final class BreatheOut {
    private static final int NO_SUCH = -1;
    private static final int NO_ROOM = -2;
    private static final int NOT_SO = -3;
    private static final int NONE = -4;
    private static final int NOTHING_HELD = -11;
    private static final int OTHER_KIND = -12;
    private static final int NO_PLACE = -13;
    private static final int BELOW_ZERO = -14;
    private static final int NO_FAILURE = -15;
    private static final int BAD_BYTE = -1000;
    private static final int BAD_STATEMENT = -2000;
    private static final long NO_SUCH_LONG = -1000000001L;

    private static final int MOST_YARDS = 12;
    private static final int MOST_BODIES = 6;
    private static final int MOST_ORDERS = 720;
    private static final int MOST_DEEDS = 6;
    private static final int MOST_POSED = 4;
    private static final int SHELF_COUNT = 8;
    private static final int MOST_ELEMENTS = 100;
    private static final int LEAST_CHEST = 10;
    private static final int MOST_CHEST = 50;
    private static final int LAST_CLOCK = 9999;
    private static final int LONGEST_WAIT = 600;
    private static final int LAST_HOUR = 99;

    private static final int YARD = 0;
    private static final int WIDE = 1;
    private static final int SQUEEZED = 2;
    private static final int KEYHOLED = 3;
    private static final int SLANTING = 4;
    private static final int FLOODING = 5;
    private static final int CAUGHT = 6;
    private static final int CHAMBER = 7;

    private static final int FEAR = 0;
    private static final int POSTURE = 1;
    private static final int CHEST = 2;

    private static final int RISE = 0;
    private static final int CALM = 1;
    private static final int LIGHT = 2;

    private static final int HOLDS_NOTHING = 0;
    private static final int HOLDS_KIND = 1;
    private static final int HOLDS_ROW = 2;

    private static final int BYTES = 0;
    private static final int SHORTS = 1;
    private static final int INTS = 2;
    private static final int LEAST_BYTE = -128;
    private static final int LEAST_SHORT = -32768;
    private static final int LEAST_INT = -2147483648;
    private static final int NO_LIMIT = 2147483647;
    private static final int ALL_BUT_SIGN = 2147483647;

    private final Cave now = new Cave();
    private final Cave kept = new Cave();
    private final Cave trial = new Cave();
    private final Trip trip = new Trip();
    private final BestOrder best = new BestOrder();
    private final Rescuers rescuers = new Rescuers();
    private final int[] line = new int[MOST_BODIES];
    private final Shelf[] shelves = new Shelf[SHELF_COUNT];
    private boolean imageTaken = false;

    public BreatheOut() {
        for (int d = 0; d < SHELF_COUNT; d++) {
            shelves[d] = new Shelf();
        }
    }

    // ---- the cave as told

    public int cave(int d) {
        int refusal = refusalOfRow(d);
        if (refusal != 0) {
            return refusal;
        }
        Shelf text = shelves[d];
        if (text.sort != BYTES) {
            return OTHER_KIND;
        }
        int broken = Text.brokenAt(text);
        if (broken >= 0) {
            return BAD_BYTE - broken;
        }
        trial.become(now);
        int told = 0;
        for (int at = 0; at < text.length; at += 2 + Text.digitsBehind(text.cells[at])) {
            if (!Text.tell(text, at, trial)) {
                return BAD_STATEMENT - at;
            }
            told++;
        }
        now.become(trial);
        best.forget();
        return told;
    }

    public int yard(int y, int what) {
        Yards yards = now.yards;
        if (!yards.has(y)) {
            return NO_SUCH;
        }
        switch (what) {
            case 0: return yards.kind[y];
            case 1: return yards.figure[y];
            case 2: return yards.width[y];
            case 3: return yards.roomAt(y, now.waterAt(now.clock));
            case 4: return yards.minutesThere[y];
            case 5: return yards.minutesBack[y];
            default: return NO_SUCH;
        }
    }

    public int body(int b, int what) {
        Bodies bodies = now.bodies;
        if (!bodies.has(b)) {
            return NO_SUCH;
        }
        switch (what) {
            case 0: return bodies.chest[b];
            case 1: return bodies.out[b];
            case 2: return bodies.fear[b];
            case 3: return bodies.pull[b];
            case 4: return bodies.posture[b];
            case 5: return bodies.placeOf(b);
            default: return NO_SUCH;
        }
    }

    public int lays(int d, int width) {
        if (!Yards.widthIsRight(width)) {
            return NO_SUCH;
        }
        int refusal = refusalOfKind(d);
        if (refusal != 0) {
            return refusal;
        }
        if (!now.yards.add(shelves[d].kind, shelves[d].figure, width)) {
            return NO_ROOM;
        }
        best.forget();
        return now.yards.count - 1;
    }

    public int shorter() {
        if (now.yards.count == 0) {
            return NOT_SO;
        }
        now.yards.count--;
        best.forget();
        return now.yards.count;
    }

    public int makes(int b, int what, int v) {
        int was = now.bodies.traitOf(b, what);
        if (!now.bodies.alter(b, what, v)) {
            return NO_SUCH;
        }
        best.forget();
        return was;
    }

    public int change(int a, int b) {
        if (!now.bodies.swap(a, b)) {
            return NO_SUCH;
        }
        best.forget();
        return now.bodies.placeOf(a);
    }

    public int set(int what, int v) {
        int was = now.settingOf(what);
        if (!now.adjust(what, v)) {
            return NO_SUCH;
        }
        best.forget();
        return was;
    }

    public int waits(int n) {
        if (!within(n, 0, 99)) {
            return NO_SUCH;
        }
        if (!now.goOn(n)) {
            return NOT_SO;
        }
        best.forget();
        return now.clock;
    }

    // ---- one alone

    public int size(int b, int y, int posture, int out) {
        if (!now.hasBoth(b, y) || !within(posture, 0, 3) || !within(out, 0, 1)) {
            return NO_SUCH;
        }
        return now.bodies.bulkOf(b, posture, out == 1) + now.yards.moreBy(posture)[y];
    }

    public int fits(int b, int y) {
        return now.hasBoth(b, y) ? now.fitOf(b, y) : NO_SUCH;
    }

    public int way(int b, int back, int what) {
        if (!now.bodies.has(b) || !within(back, 0, 1)) {
            return NO_SUCH;
        }
        Leg leg = trip.alone(now, b, back == 1);
        switch (what) {
            case 0: return leg.where;
            case 1: return leg.clock - now.clock;
            case 2: return leg.breaths;
            default: return NO_SUCH;
        }
    }

    public int posture(int b) {
        if (!now.bodies.has(b)) {
            return NO_SUCH;
        }
        trial.become(now);
        int found = NONE;
        int fewest = NO_LIMIT;
        for (int p = 0; p < 4; p++) {
            trial.bodies.posture[b] = p;
            Leg leg = trip.alone(trial, b, false);
            if (leg.stuck == NONE && leg.breaths < fewest) {
                fewest = leg.breaths;
                found = p;
            }
        }
        return found;
    }

    public int lacks(int b) {
        if (!now.bodies.has(b)) {
            return NO_SUCH;
        }
        int most = 0;
        for (int y = 0; y < now.yards.count; y++) {
            most = Math.max(most, now.lackingOf(b, y));
        }
        return most;
    }

    public int widest(int b) {
        if (!now.bodies.has(b)) {
            return NO_SUCH;
        }
        trial.become(now);
        for (int chest = MOST_CHEST; chest >= LEAST_CHEST; chest--) {
            trial.bodies.chest[b] = chest;
            if (trip.alone(trial, b, false).stuck == NONE) {
                return chest;
            }
        }
        return NONE;
    }

    // ---- all

    public int go(int what) {
        if (!within(what, 0, 4)) {
            return NO_SUCH;
        }
        Leg there = allGo();
        switch (what) {
            case 0: return there.arrived;
            case 1: return there.stuck;
            case 2: return there.where;
            case 3: return there.clock;
            default: return there.breaths;
        }
    }

    public int back(int what) {
        if (!within(what, 0, 3)) {
            return NO_SUCH;
        }
        allReturn(now);
        switch (what) {
            case 0: return trip.home.arrived;
            case 1: return trip.home.stuck;
            case 2: return trip.shutIn();
            default: return trip.home.clock;
        }
    }

    public int help(int b) {
        Bodies bodies = now.bodies;
        if (!bodies.has(b)) {
            return NO_SUCH;
        }
        int place = bodies.placeOf(b);
        int strongest = 0;
        for (int i = 0; i < place; i++) {
            strongest = Math.max(strongest, bodies.pull[bodies.line[i]]);
        }
        int pushing = place + 1 < bodies.count ? bodies.pull[bodies.line[place + 1]] : 0;
        return strongest / 3 + pushing / 3;
    }

    public int order(int i) {
        if (i < -1) {
            return NO_SUCH;
        }
        if (i >= now.bodies.count) {
            return NONE;
        }
        best.find(now, trip);
        return i == -1 ? best.returned : best.line[i];
    }

    public int stays() {
        int found = NONE;
        int fewest = MOST_BODIES + 1;
        int sets = 1 << now.bodies.count;
        for (int staying = 0; staying < sets; staying++) {
            int n = Integer.bitCount(staying);
            if (n < fewest && othersAreBack(staying)) {
                fewest = n;
                found = staying;
            }
        }
        return found;
    }

    public int calms(int b) {
        if (!now.bodies.has(b)) {
            return NO_SUCH;
        }
        trial.become(now);
        int fear = now.bodies.fear[b];
        for (int calmer = 0; calmer <= fear; calmer++) {
            trial.bodies.fear[b] = fear - calmer;
            if (trip.alone(trial, b, false).stuck == NONE) {
                return calmer * now.calm;
            }
        }
        return NONE;
    }

    public int rescue(int b, int y, int n, int i) {
        if (!now.hasBoth(b, y) || !within(n, 0, MOST_DEEDS) || i < -1) {
            return NO_SUCH;
        }
        if (now.fitOf(b, y) != 2) {
            return NOT_SO;
        }
        rescuers.find(now, b, y, n);
        if (!rescuers.found || i >= rescuers.bestCount) {
            return NONE;
        }
        return i == -1 ? rescuers.bestMinutes : rescuers.bestDeeds[i];
    }

    public int turns() {
        // Whoever starts later is nowhere earlier and has nowhere more room, so the waits that do
        // come ahead of all that don't: halving finds the last of them.
        int does = NONE;
        int least = 0;
        int most = Math.min(LONGEST_WAIT, now.light - now.clock);
        for (int halvings = 0; halvings < 32 && least <= most; halvings++) {
            int wait = (least + most) / 2;
            if (areBackInLight(wait)) {
                does = wait;
                least = wait + 1;
            } else {
                most = wait - 1;
            }
        }
        return does;
    }

    public int floods(int b, int y) {
        if (!now.hasBoth(b, y)) {
            return NO_SUCH;
        }
        int posture = now.bodies.posture[b];
        int breathedOut = now.bodies.bulkOf(b, posture, true) + now.yards.moreBy(posture)[y];
        for (int hour = 0; hour <= LAST_HOUR; hour++) {
            if (breathedOut > now.yards.roomAt(y, hour * now.rise)) {
                return hour;
            }
        }
        return NONE;
    }

    public int haste() {
        allReturn(now);
        int afraid = trip.home.clock;
        trial.become(now);
        Arrays.fill(trial.bodies.fear, 0);
        allReturn(trial);
        return Math.max(0, afraid - trip.home.clock);
    }

    public long panic(int part) {
        if (!within(part, 0, 1)) {
            return NO_SUCH_LONG;
        }
        trial.become(now);
        int n = now.bodies.count;
        long below = 1;
        for (int b = 0; b < n; b++) {
            below *= 10;
        }
        long above = 0;
        int sets = 1 << n;
        for (int panicked = 0; panicked < sets; panicked++) {
            long odds = panicOf(panicked);
            if (odds > 0 && allReturn(trial)) {
                above += odds;
            }
        }
        long shared = commonDivisor(below, above);
        if (shared <= 0) {
            return NO_SUCH_LONG;
        }
        return part == 0 ? above / shared : below / shared;
    }

    public int firstWays() {
        int n = now.bodies.count;
        if (n > MOST_POSED) {
            return NOT_SO;
        }
        trial.become(now);
        int most = -1;
        int found = 0;
        int ways = 1 << (2 * n);
        for (int postures = 0; postures < ways; postures++) {
            int digits = pose(postures, n);
            allReturn(trial);
            if (trip.home.arrivals > most) {
                most = trip.home.arrivals;
                found = digits;
            }
        }
        return found;
    }

    // ---- rocks, told minutes

    public int rock(int b, int d, int what) {
        if (!within(what, 0, 1)) {
            return NO_SUCH;
        }
        int refusal = refusalOfRock(b, d);
        if (refusal != 0) {
            return refusal;
        }
        trial.become(now);
        int agreeing = 0;
        int least = NONE;
        for (int chest = MOST_CHEST; chest >= LEAST_CHEST; chest--) {
            trial.bodies.chest[b] = chest;
            if (firstUnlike(b, shelves[d]) == shelves[d].length) {
                agreeing++;
                least = chest;
            }
        }
        return what == 0 ? agreeing : least;
    }

    public int forged(int b, int d) {
        int refusal = refusalOfRock(b, d);
        if (refusal != 0) {
            return refusal;
        }
        trial.become(now);
        int farthest = 0;
        for (int chest = LEAST_CHEST; chest <= MOST_CHEST; chest++) {
            trial.bodies.chest[b] = chest;
            farthest = Math.max(farthest, firstUnlike(b, shelves[d]));
        }
        return farthest == shelves[d].length ? NONE : farthest;
    }

    public int judge(int d) {
        int refusal = refusalOfRow(d);
        if (refusal != 0) {
            return refusal;
        }
        Shelf told = shelves[d];
        Leg there = allGo();
        for (int i = 0; i < told.length; i++) {
            boolean so = i < there.arrivals && told.cells[i] == there.times[i] - now.clock;
            if (!so && !told.isSkipped(i)) {
                return i;
            }
        }
        return NONE;
    }

    public int parties(int n, int z, int what) {
        if (!within(n, 1, 20) || !within(what, 0, 1)) {
            return NO_SUCH;
        }
        trial.become(now);
        int seed = z;
        int through = 0;
        int returned = 0;
        for (int party = 0; party < n; party++) {
            for (int b = 0; b < trial.bodies.count; b++) {
                seed = seed * 1103515245 + 12345;
                trial.bodies.fear[b] = (seed & ALL_BUT_SIGN) / 65536 % 10;
            }
            allReturn(trial);
            through += trip.there.arrivals;
            returned += trip.home.arrivals;
        }
        return what == 0 ? through : returned;
    }

    // ---- the image, what is told

    public int image() {
        kept.become(now);
        imageTaken = true;
        return now.clock;
    }

    public int restore() {
        if (!imageTaken) {
            return NOT_SO;
        }
        now.become(kept);
        best.forget();
        return now.clock;
    }

    public int count(int what) {
        switch (what) {
            case 0: return now.yards.count;
            case 1: return now.bodies.count;
            case 2: return now.clock;
            case 3: return now.rise;
            case 4: return now.calm;
            case 5: return now.light;
            case 6: return sumOf(now.yards.width, now.yards.count);
            case 7: return sumOf(now.bodies.chest, now.bodies.count);
            default: return NO_SUCH;
        }
    }

    // ---- shelves

    public int keep(int d, int what, int k, int figure) {
        if (!isShelf(d) || !within(what, 0, 1)) {
            return NO_SUCH;
        }
        if (what == 0) {
            shelves[d].holds = HOLDS_NOTHING;
            return 0;
        }
        if (!within(k, YARD, CHAMBER) || !within(figure, 0, 9)) {
            return NO_SUCH;
        }
        shelves[d].holdKind(k, figure);
        return 0;
    }

    public int row(int d, int sort, int n) {
        if (!isShelf(d) || !within(sort, BYTES, INTS) || n > MOST_ELEMENTS) {
            return NO_SUCH;
        }
        if (n < 0) {
            return BELOW_ZERO;
        }
        shelves[d].holdRow(sort, n);
        return 0;
    }

    public int put(int d, int i, int v) {
        int refusal = refusalOfRow(d);
        if (refusal != 0) {
            return refusal;
        }
        if (!shelves[d].hasPlace(i)) {
            return NO_PLACE;
        }
        shelves[d].write(i, v);
        return 0;
    }

    public long element(int d, int i) throws IllegalArgumentException, IllegalStateException {
        if (!isShelf(d)) {
            throw new IllegalArgumentException("no such shelf");
        }
        if (shelves[d].holds != HOLDS_ROW) {
            throw new IllegalStateException("no row");
        }
        if (!shelves[d].hasPlace(i)) {
            throw new IllegalStateException("no such place");
        }
        return shelves[d].cells[i];
    }

    public int copy(int d, int i, int e, int j, int n) {
        if (!isShelf(d) || !isShelf(e)) {
            return NO_SUCH;
        }
        Shelf from = shelves[d];
        Shelf to = shelves[e];
        if (from.holds == HOLDS_NOTHING || to.holds == HOLDS_NOTHING) {
            return NOTHING_HELD;
        }
        if (from.holds != HOLDS_ROW || to.holds != HOLDS_ROW || from.sort != to.sort) {
            return OTHER_KIND;
        }
        if (n < 0 || !from.hasPlaces(i, n) || !to.hasPlaces(j, n)) {
            return NO_PLACE;
        }
        System.arraycopy(from.cells, i, to.cells, j, n);
        return n;
    }

    public int cost(int d) {
        int refusal = refusalOfKind(d);
        return refusal != 0 ? refusal : Kinds.costOf(shelves[d].kind, shelves[d].figure);
    }

    public int toss(int d) {
        int refusal = refusalOfKind(d);
        if (refusal != 0) {
            return refusal;
        }
        int kind = shelves[d].kind;
        int figure = shelves[d].figure;
        try {
            Kinds.fail(kind, figure);
        } catch (UnsupportedOperationException caught) {
            return 200 + Kinds.costOf(kind, figure);
        } catch (IllegalStateException squeezed) {
            return 100 + figure;
        } catch (IllegalArgumentException plain) {
            return figure;
        }
        return NO_FAILURE;
    }

    // ---- what the calls share

    private static boolean within(int v, int least, int most) {
        return v >= least && v <= most;
    }

    private static boolean isShelf(int d) {
        return within(d, 0, SHELF_COUNT - 1);
    }

    private static int sumOf(int[] numbers, int n) {
        int sum = 0;
        for (int i = 0; i < n && i < numbers.length; i++) {
            sum += numbers[i];
        }
        return sum;
    }

    private static long commonDivisor(long a, long b) {
        long larger = a;
        long smaller = b;
        for (int step = 0; step < 200 && smaller != 0; step++) {
            long rest = larger % smaller;
            larger = smaller;
            smaller = rest;
        }
        return larger;
    }

    private int refusalOfRow(int d) {
        return refusalUnless(d, HOLDS_ROW);
    }

    private int refusalOfKind(int d) {
        return refusalUnless(d, HOLDS_KIND);
    }

    private int refusalUnless(int d, int held) {
        if (!isShelf(d)) {
            return NO_SUCH;
        }
        if (shelves[d].holds == HOLDS_NOTHING) {
            return NOTHING_HELD;
        }
        return shelves[d].holds == held ? 0 : OTHER_KIND;
    }

    private int refusalOfRock(int b, int d) {
        if (!now.bodies.has(b)) {
            return NO_SUCH;
        }
        int refusal = refusalOfRow(d);
        if (refusal != 0) {
            return refusal;
        }
        return shelves[d].length > now.yards.count ? NO_PLACE : 0;
    }

    /** The first YARD at which the body in the trial is not as the row tells; the row's length if there is none. */
    private int firstUnlike(int b, Shelf told) {
        for (int y = 0; y < told.length && y < trial.yards.count; y++) {
            if (!told.isSkipped(y) && told.cells[y] != trial.fitOf(b, y)) {
                return y;
            }
        }
        return told.length;
    }

    private Leg allGo() {
        trip.there.passAll(now, now.bodies.line, now.bodies.count, false, now.clock);
        return trip.there;
    }

    private boolean allReturn(Cave c) {
        return trip.thereAndBack(c, c.bodies.line, c.bodies.count, c.clock);
    }

    private boolean areBackInLight(int wait) {
        boolean back = trip.thereAndBack(now, now.bodies.line, now.bodies.count, now.clock + wait);
        return back && trip.home.clock <= now.light;
    }

    private boolean othersAreBack(int staying) {
        Bodies bodies = now.bodies;
        int going = 0;
        for (int i = 0; i < bodies.count; i++) {
            int b = bodies.line[i];
            if ((staying >> b & 1) == 0) {
                line[going] = b;
                going++;
            }
        }
        return trip.thereAndBack(now, line, going, now.clock);
    }

    /** Gives the trial's bodies the fears of this set of panics, and tells its odds in tenths of each body. */
    private long panicOf(int panicked) {
        long odds = 1;
        for (int b = 0; b < now.bodies.count; b++) {
            int fear = now.bodies.fear[b];
            boolean panics = (panicked >> b & 1) == 1;
            odds *= panics ? fear : 10 - fear;
            trial.bodies.fear[b] = panics ? 9 : fear;
        }
        return odds;
    }

    /** Gives the trial's bodies the postures packed in pairs of bits, body 0's the highest: their digits. */
    private int pose(int postures, int n) {
        int digits = 0;
        for (int b = 0; b < n; b++) {
            int posture = postures >> 2 * (n - 1 - b) & 3;
            trial.bodies.posture[b] = posture;
            digits = digits * 10 + posture;
        }
        return digits;
    }

    /** What the KINDS have of their own, and what they have from the one they are under. */
    private static final class Kinds {
        static int roomOf(int kind, int figure, int width) {
            switch (kind) {
                case WIDE: return width + 4;
                case SQUEEZED:
                case KEYHOLED: return Math.max(0, width - figure / 3);
                case CAUGHT: return Math.max(0, roomOf(SQUEEZED, figure, width) - 1);
                case CHAMBER: return 2 * roomOf(WIDE, figure, width);
                default: return width;
            }
        }

        static int moreOf(int kind, boolean feetFirst) {
            switch (kind) {
                case KEYHOLED: return feetFirst ? 0 : 2;
                case SLANTING: return feetFirst ? 1 : 0;
                default: return 0;
            }
        }

        static int minutesOf(int kind, int figure, boolean homeward) {
            switch (kind) {
                case WIDE:
                case CHAMBER: return 1;
                case SQUEEZED:
                case KEYHOLED: return 2 + figure;
                case SLANTING: return homeward ? 5 : 1;
                case CAUGHT: return minutesOf(SQUEEZED, figure, homeward) + 5;
                default: return 2;
            }
        }

        static int costOf(int kind, int figure) {
            switch (kind) {
                case WIDE: return 1;
                case SQUEEZED: return 3 + figure;
                case KEYHOLED: return 2 * costOf(SQUEEZED, figure);
                case SLANTING: return 9;
                case FLOODING: return 4;
                case CAUGHT: return costOf(SQUEEZED, figure) + 9;
                case CHAMBER: return costOf(WIDE, figure) + figure;
                default: return 3;
            }
        }

        /** Throws the kind's FAILURE, each sort of it a class of its own; comes back if it has none. */
        static void fail(int kind, int figure) {
            if (kind == CHAMBER || figure == 0) {
                return;
            }
            if (kind == CAUGHT) {
                throw new UnsupportedOperationException("caught");
            }
            if (kind == SQUEEZED || kind == KEYHOLED) {
                throw new IllegalStateException("squeezed");
            }
            throw new IllegalArgumentException("failed");
        }
    }

    /** The YARDS in columns; what follows from KIND, FIGURE and WIDTH is worked out once, when one is laid. */
    private static final class Yards {
        int count = 0;
        final int[] kind = new int[MOST_YARDS];
        final int[] figure = new int[MOST_YARDS];
        final int[] width = new int[MOST_YARDS];
        final int[] dryRoom = new int[MOST_YARDS];
        final int[] minutesThere = new int[MOST_YARDS];
        final int[] minutesBack = new int[MOST_YARDS];
        final int[] moreHeadFirst = new int[MOST_YARDS];
        final int[] moreFeetFirst = new int[MOST_YARDS];

        static boolean widthIsRight(int width) {
            return within(width, 6, 40);
        }

        boolean has(int y) {
            return within(y, 0, count - 1);
        }

        boolean add(int k, int f, int w) {
            if (!within(k, YARD, CHAMBER) || !within(f, 0, 9) || !widthIsRight(w) || count >= MOST_YARDS) {
                return false;
            }
            kind[count] = k;
            figure[count] = f;
            width[count] = w;
            dryRoom[count] = Kinds.roomOf(k, f, w);
            minutesThere[count] = Kinds.minutesOf(k, f, false);
            minutesBack[count] = Kinds.minutesOf(k, f, true);
            moreHeadFirst[count] = Kinds.moreOf(k, false);
            moreFeetFirst[count] = Kinds.moreOf(k, true);
            count++;
            return true;
        }

        int roomAt(int y, int water) {
            return kind[y] == FLOODING ? Math.max(0, dryRoom[y] - water) : dryRoom[y];
        }

        int[] moreBy(int posture) {
            return posture >= 2 ? moreFeetFirst : moreHeadFirst;
        }

        void become(Yards other) {
            count = other.count;
            System.arraycopy(other.kind, 0, kind, 0, MOST_YARDS);
            System.arraycopy(other.figure, 0, figure, 0, MOST_YARDS);
            System.arraycopy(other.width, 0, width, 0, MOST_YARDS);
            System.arraycopy(other.dryRoom, 0, dryRoom, 0, MOST_YARDS);
            System.arraycopy(other.minutesThere, 0, minutesThere, 0, MOST_YARDS);
            System.arraycopy(other.minutesBack, 0, minutesBack, 0, MOST_YARDS);
            System.arraycopy(other.moreHeadFirst, 0, moreHeadFirst, 0, MOST_YARDS);
            System.arraycopy(other.moreFeetFirst, 0, moreFeetFirst, 0, MOST_YARDS);
        }
    }

    /** The BODIES in columns, and their ORDER: the line. */
    private static final class Bodies {
        int count = 0;
        final int[] chest = new int[MOST_BODIES];
        final int[] out = new int[MOST_BODIES];
        final int[] fear = new int[MOST_BODIES];
        final int[] pull = new int[MOST_BODIES];
        final int[] posture = new int[MOST_BODIES];
        final int[] line = new int[MOST_BODIES];

        boolean has(int b) {
            return within(b, 0, count - 1);
        }

        boolean add(int c, int o, int f, int p) {
            if (!within(c, LEAST_CHEST, MOST_CHEST) || count >= MOST_BODIES) {
                return false;
            }
            chest[count] = c;
            out[count] = o;
            fear[count] = f;
            pull[count] = p;
            posture[count] = 0;
            line[count] = count;
            count++;
            return true;
        }

        int traitOf(int b, int what) {
            if (!has(b)) {
                return NO_SUCH;
            }
            switch (what) {
                case FEAR: return fear[b];
                case POSTURE: return posture[b];
                case CHEST: return chest[b];
                default: return NO_SUCH;
            }
        }

        boolean alter(int b, int what, int v) {
            if (!has(b)) {
                return false;
            }
            if (what == FEAR && within(v, 0, 9)) {
                fear[b] = v;
                return true;
            }
            if (what == POSTURE && within(v, 0, 3)) {
                posture[b] = v;
                return true;
            }
            if (what == CHEST && within(v, LEAST_CHEST, MOST_CHEST)) {
                chest[b] = v;
                return true;
            }
            return false;
        }

        int placeOf(int b) {
            for (int i = 0; i < count; i++) {
                if (line[i] == b) {
                    return i;
                }
            }
            return NO_SUCH;
        }

        boolean swap(int a, int b) {
            if (!has(a) || !has(b) || a == b) {
                return false;
            }
            for (int i = 0; i < count; i++) {
                if (line[i] == a) {
                    line[i] = b;
                } else if (line[i] == b) {
                    line[i] = a;
                }
            }
            return true;
        }

        /** SIZE but for the MORE of a YARD. */
        int bulkOf(int b, int postured, boolean breathedOut) {
            int armAhead = postured % 2 == 0 ? 1 : 0;
            return chest[b] - (breathedOut ? out[b] : 0) + fear[b] / 3 - armAhead;
        }

        int strongestPullBut(int b) {
            int strongest = 0;
            for (int i = 0; i < count; i++) {
                if (i != b) {
                    strongest = Math.max(strongest, pull[i]);
                }
            }
            return strongest;
        }

        int weakestPullBut(int b) {
            int weakest = 9;
            for (int i = 0; i < count; i++) {
                if (i != b) {
                    weakest = Math.min(weakest, pull[i]);
                }
            }
            return count > 1 ? weakest : 0;
        }

        void become(Bodies other) {
            count = other.count;
            System.arraycopy(other.chest, 0, chest, 0, MOST_BODIES);
            System.arraycopy(other.out, 0, out, 0, MOST_BODIES);
            System.arraycopy(other.fear, 0, fear, 0, MOST_BODIES);
            System.arraycopy(other.pull, 0, pull, 0, MOST_BODIES);
            System.arraycopy(other.posture, 0, posture, 0, MOST_BODIES);
            System.arraycopy(other.line, 0, line, 0, MOST_BODIES);
        }
    }

    /** All that there is but the SHELVES: as it is now, as the image has it, or as it is tried. */
    private static final class Cave {
        final Yards yards = new Yards();
        final Bodies bodies = new Bodies();
        int rise = 1;
        int calm = 15;
        int light = 120;
        int clock = 0;

        boolean hasBoth(int b, int y) {
            return bodies.has(b) && yards.has(y);
        }

        int settingOf(int what) {
            switch (what) {
                case RISE: return rise;
                case CALM: return calm;
                case LIGHT: return light;
                default: return NO_SUCH;
            }
        }

        boolean adjust(int what, int v) {
            if (what == RISE && within(v, 0, 9)) {
                rise = v;
                return true;
            }
            if (what == CALM && within(v, 1, 60)) {
                calm = v;
                return true;
            }
            if (what == LIGHT && within(v, 0, 999)) {
                light = v;
                return true;
            }
            return false;
        }

        boolean goOn(int minutes) {
            if (clock + minutes > LAST_CLOCK) {
                return false;
            }
            clock += minutes;
            return true;
        }

        int waterAt(int minutes) {
            return minutes / 60 * rise;
        }

        int lackingOf(int b, int y) {
            int posture = bodies.posture[b];
            int breathedOut = bodies.bulkOf(b, posture, true) + yards.moreBy(posture)[y];
            return breathedOut - yards.roomAt(y, waterAt(clock));
        }

        int fitOf(int b, int y) {
            int lacking = lackingOf(b, y);
            if (lacking > 0) {
                return 2;
            }
            return lacking + bodies.out[b] > 0 ? 1 : 0;
        }

        void become(Cave other) {
            yards.become(other.yards);
            bodies.become(other.bodies);
            rise = other.rise;
            calm = other.calm;
            light = other.light;
            clock = other.clock;
        }
    }

    /** How a line of bodies gets through all YARDS one way. */
    private static final class Leg {
        int arrived = 0;
        int arrivals = 0;
        int stuck = NONE;
        int where = NONE;
        int clock = 0;
        int breaths = 0;
        final int[] times = new int[MOST_BODIES];

        void begin(int from) {
            arrived = 0;
            arrivals = 0;
            stuck = NONE;
            where = NONE;
            clock = from;
            breaths = 0;
        }

        void passAll(Cave c, int[] line, int n, boolean homeward, int from) {
            begin(from);
            int[] pull = c.bodies.pull;
            int strongest = 0;
            for (int i = 0; i < n && stuck == NONE; i++) {
                int b = line[homeward ? n - 1 - i : i];
                int pushing = 0;
                if (i + 1 < n) {
                    pushing = pull[line[homeward ? n - 2 - i : i + 1]] / 3;
                }
                passOne(c, b, homeward, strongest / 3 + pushing);
                if (stuck == NONE) {
                    arrived |= 1 << b;
                    times[arrivals] = clock;
                    arrivals++;
                    strongest = Math.max(strongest, pull[b]);
                }
            }
        }

        private void passOne(Cave c, int b, boolean homeward, int helping) {
            Yards yards = c.yards;
            int posture = c.bodies.posture[b];
            int[] more = yards.moreBy(posture);
            int[] minutes = homeward ? yards.minutesBack : yards.minutesThere;
            int breathedOut = c.bodies.bulkOf(b, posture, true);
            int out = c.bodies.out[b];
            for (int i = 0; i < yards.count; i++) {
                int y = homeward ? yards.count - 1 - i : i;
                int lacking = breathedOut + more[y] - yards.roomAt(y, c.waterAt(clock));
                if (lacking > helping) {
                    stuck = b;
                    where = y;
                    return;
                }
                clock += minutes[y];
                if (lacking > 0) {
                    clock += 10;
                } else if (lacking + out > 0) {
                    clock++;
                    breaths++;
                }
            }
        }
    }

    /** GO and COME BACK. */
    private static final class Trip {
        final Leg there = new Leg();
        final Leg home = new Leg();
        private final int[] one = new int[1];

        /** Whether all of the line are back. */
        boolean thereAndBack(Cave c, int[] line, int n, int from) {
            there.passAll(c, line, n, false, from);
            if (there.stuck != NONE) {
                home.begin(there.clock);
                return false;
            }
            home.passAll(c, line, n, true, there.clock);
            return home.stuck == NONE;
        }

        /** A line of one has nobody beyond and nobody behind: no HELP. */
        Leg alone(Cave c, int b, boolean homeward) {
            one[0] = b;
            Leg leg = homeward ? home : there;
            leg.passAll(c, one, 1, homeward, c.clock);
            return leg;
        }

        int shutIn() {
            int stuckBit = home.stuck == NONE ? 0 : 1 << home.stuck;
            return there.arrived & ~home.arrived & ~stuckBit;
        }
    }

    /** BEST ORDER, kept until something changes, for it is asked for place by place. */
    private static final class BestOrder {
        final int[] line = new int[MOST_BODIES];
        int returned = 0;
        private final int[] tried = new int[MOST_BODIES];
        private int clock = 0;
        private boolean known = false;

        void forget() {
            known = false;
        }

        void find(Cave c, Trip trip) {
            if (known) {
                return;
            }
            int n = c.bodies.count;
            for (int i = 0; i < n; i++) {
                tried[i] = i;
            }
            returned = -1;
            boolean more = true;
            for (int orders = 0; more && orders < MOST_ORDERS; orders++) {
                trip.thereAndBack(c, tried, n, c.clock);
                weigh(trip.home);
                more = goToNext(n);
            }
            known = true;
        }

        private void weigh(Leg home) {
            boolean sooner = home.arrivals == returned && home.clock < clock;
            if (home.arrivals > returned || sooner) {
                returned = home.arrivals;
                clock = home.clock;
                System.arraycopy(tried, 0, line, 0, MOST_BODIES);
            }
        }

        /** The next order by BODIES; false behind the last. */
        private boolean goToNext(int n) {
            int rising = n - 2;
            while (rising >= 0 && tried[rising] > tried[rising + 1]) {
                rising--;
            }
            if (rising < 0) {
                return false;
            }
            int larger = n - 1;
            while (larger > rising && tried[larger] < tried[rising]) {
                larger--;
            }
            exchange(rising, larger);
            int left = rising + 1;
            int right = n - 1;
            while (left < right) {
                exchange(left, right);
                left++;
                right--;
            }
            return true;
        }

        private void exchange(int i, int j) {
            int held = tried[i];
            tried[i] = tried[j];
            tried[j] = held;
        }
    }

    /** RESCUE: the deeds are tried in their order, so the first found of several equals is the one told. */
    private static final class Rescuers {
        final int[] bestDeeds = new int[MOST_DEEDS];
        int bestCount = 0;
        int bestMinutes = 0;
        boolean found = false;
        private final int[] deeds = new int[MOST_DEEDS];
        private int most = 0;
        private int lackingWithoutFear = 0;
        private int pulling = 0;
        private int pushing = 0;
        private int calm = 0;

        void find(Cave c, int b, int y, int n) {
            int fear = c.bodies.fear[b];
            most = Math.min(n, MOST_DEEDS);
            lackingWithoutFear = c.lackingOf(b, y) - fear / 3;
            pulling = c.bodies.strongestPullBut(b) / 3;
            pushing = c.bodies.weakestPullBut(b) / 3;
            calm = c.calm;
            found = false;
            bestCount = 0;
            bestMinutes = NO_LIMIT;
            search(0, fear, 0, 0);
        }

        private void search(int done, int fear, int helping, int minutes) {
            if (minutes >= bestMinutes) {
                return;
            }
            if (lackingWithoutFear + fear / 3 <= helping) {
                found = true;
                bestMinutes = minutes;
                bestCount = done;
                System.arraycopy(deeds, 0, bestDeeds, 0, MOST_DEEDS);
                return;
            }
            if (done >= most) {
                return;
            }
            deeds[done] = 0;
            search(done + 1, fear, helping + pulling, minutes + 10);
            deeds[done] = 1;
            search(done + 1, fear, helping + pushing, minutes + 10);
            deeds[done] = 2;
            search(done + 1, Math.max(0, fear - 1), helping, minutes + calm);
            deeds[done] = 3;
            search(done + 1, Math.min(9, fear + 1), helping + 1, minutes + 2);
        }
    }

    /** THE TEXT of a CAVE. */
    private static final class Text {
        /** The place of the first byte with which no CAVE can go on; -1 if there is none. */
        static int brokenAt(Shelf text) {
            if (text.length == 0) {
                return 0;
            }
            int at = 0;
            while (at < text.length) {
                int digits = digitsBehind(text.cells[at]);
                if (digits == 0) {
                    return at;
                }
                int end = at + 1 + digits;
                for (at++; at < end; at++) {
                    if (at >= text.length || !within(text.cells[at], '0', '9')) {
                        return at;
                    }
                }
                if (at >= text.length || text.cells[at] != ';') {
                    return at;
                }
                at++;
            }
            return -1;
        }

        /** 0 behind what is no letter of a STATEMENT. */
        static int digitsBehind(int letter) {
            switch (letter) {
                case 'r': return 1;
                case 'p':
                case 'x':
                case 'c':
                case 't': return 2;
                case 'l': return 3;
                case 'y': return 4;
                case 'b': return 5;
                default: return 0;
            }
        }

        /** Does the STATEMENT whose letter is at this place; false, and nothing done, if it is not as it must be. */
        static boolean tell(Shelf text, int at, Cave c) {
            int first = number(text, at + 1, 1);
            int firstTwo = number(text, at + 1, 2);
            int second = number(text, at + 2, 1);
            switch (text.cells[at]) {
                case 'y': return c.yards.add(first, second, number(text, at + 3, 2));
                case 'b':
                    return c.bodies.add(firstTwo, number(text, at + 3, 1), number(text, at + 4, 1), number(text, at + 5, 1));
                case 'p': return c.bodies.alter(first, POSTURE, second);
                case 'x': return c.bodies.swap(first, second);
                case 'r': return c.adjust(RISE, first);
                case 'c': return c.adjust(CALM, firstTwo);
                case 'l': return c.adjust(LIGHT, number(text, at + 1, 3));
                case 't': return c.goOn(firstTwo);
                default: return false;
            }
        }

        private static int number(Shelf text, int at, int digits) {
            int v = 0;
            for (int i = at; i < at + digits && i < text.length; i++) {
                v = v * 10 + text.cells[i] - '0';
            }
            return v;
        }
    }

    /** A SHELF with room for a whole ROW, so that no call makes one. */
    private static final class Shelf {
        int holds = HOLDS_NOTHING;
        int kind = YARD;
        int figure = 0;
        int sort = BYTES;
        int length = 0;
        final int[] cells = new int[MOST_ELEMENTS];

        void holdKind(int k, int f) {
            holds = HOLDS_KIND;
            kind = k;
            figure = f;
        }

        void holdRow(int s, int n) {
            holds = HOLDS_ROW;
            sort = s;
            length = n;
            Arrays.fill(cells, 0);
        }

        boolean hasPlace(int i) {
            return within(i, 0, length - 1);
        }

        boolean hasPlaces(int i, int n) {
            return within(i, 0, length) && n <= length - i;
        }

        void write(int i, int v) {
            cells[i] = sort == BYTES ? (byte) v : sort == SHORTS ? (short) v : v;
        }

        boolean isSkipped(int i) {
            return cells[i] == (sort == BYTES ? LEAST_BYTE : sort == SHORTS ? LEAST_SHORT : LEAST_INT);
        }
    }
}
