import java.util.Arrays;

/** A sea of four waters; what each call promises stands in the document, by its number. */
public final class FourWaters {
    public static final int NONE = -1, BAD = -2, NO = -3, FULL = -4;

    private static final int LAYERS = 4, SKINS = 3, GROUND = 4, TIDES = 6;
    private static final int MOST_CELLS = 6, MOST_THINGS = 6, MOST_LIFTS = 10, MOST_TOWNS = 6;
    private static final int MOST_DROPS = 6, MOST_UNDONE = 10, MOST_BYTES = 150;
    private static final int HEAVIEST = 99, MOST_BALLAST = 99, LAST_HOUR = 999, DEEPEST_NET = 60, MOST_TAPPED = 9;
    private static final int SHIP = 1, BOTTLE = 2, DIVER = 3, DROWNED = 4, FISH = 5;
    private static final int BAD_TEN = -10, BAD_NET = -1000, FIRST_FAULT = -10, FIRST_ITEM = -1000;
    private static final int NOT_TORN = 0, MOST_BORNE = 99;
    private static final int[] FIRST_DENSITY = {10, 13, 16, 20};

    private final Sea now = new Sea();
    private final Sea spare = new Sea();
    private final Sea imageZero = new Sea();
    private final Sea imageOne = new Sea();
    private final boolean[] imageKept = new boolean[2];
    private final Text text = new Text();
    private final Fall fall = new Fall();
    private final Spread spread = new Spread();
    private final Ways ways = new Ways();
    private final int[] downs = new int[MOST_THINGS];
    private long above = 0;
    private long below = 1;
    private int refusedBad = 0;
    private int refusedNo = 0;
    private int refusedFull = 0;

    public FourWaters() {
    }

    // ---- a sea

    public int sea(int n) {
        return counted(now.startAnew(n));
    }

    public int water(int layer, int density) {
        return counted(now.putDensity(layer, density));
    }

    public int thick(int layer, int cell, int n) {
        return counted(now.putThick(layer, cell, n));
    }

    public int skin(int layer, int n) {
        return counted(now.putSkin(layer, n));
    }

    public int tide(int layer, int hour, int n) {
        if (!isLayer(layer) || !within(hour, 0, TIDES - 1) || !within(n, -2, 2)) {
            return bad(BAD_TEN);
        }
        int at = layer * TIDES + hour;
        int was = now.tides[at];
        now.tides[at] = n;
        return was;
    }

    public int current(int layer, int n) {
        if (!isLayer(layer) || !within(n, -1, 1)) {
            return bad(BAD_TEN);
        }
        int was = now.currents[layer];
        now.currents[layer] = n;
        return was;
    }

    public int thing(int kind, int weight, int volume) {
        return counted(now.things.add(kind, weight, volume));
    }

    public int ballast(int thing, int n) {
        if (!now.things.has(thing) || !within(n, 0, MOST_BALLAST)) {
            return bad(BAD);
        }
        int was = now.things.ballasts[thing];
        now.things.ballasts[thing] = n;
        return was;
    }

    public int lift(int from, int to, int hours) {
        return counted(now.addLift(from, to, hours));
    }

    public int town(int place) {
        return counted(now.addTown(place));
    }

    public int dam(int k, boolean is) {
        return counted(now.putDam(k, is));
    }

    public int drop(int layer, boolean floated) {
        return counted(now.addDrop(layer, floated));
    }

    public int clean(int what) {
        return counted(now.empty(what));
    }

    public int type(int c) {
        return counted(text.add(c));
    }

    public int clear() {
        int had = text.length;
        text.length = 0;
        return had;
    }

    public int read() {
        int fault = text.tell(spare);
        if (fault != NONE) {
            return FIRST_FAULT - fault;
        }
        if (text.refusedItem != NONE) {
            return FIRST_ITEM - text.refusedItem;
        }
        now.copyFrom(spare);
        return text.items;
    }

    // ---- hours, things

    public int hours(int n) {
        return counted(now.goOn(n));
    }

    public int undo() {
        return counted(now.goBack());
    }

    public int of(int thing, int what) {
        if (!now.things.has(thing) || !within(what, 0, 2)) {
            return bad(BAD);
        }
        if (what == 0) {
            return now.things.kinds[thing];
        }
        shapeNow(thing);
        return what == 1 ? fall.weighs : fall.room;
    }

    public int deep(int layer, int cell) {
        if (!isLayer(layer) || !now.hasCell(cell)) {
            return bad(BAD);
        }
        return now.thickAt(layer, cell, now.hour);
    }

    public int rests(int thing, int cell, int what) {
        if (!now.things.has(thing) || !now.hasCell(cell) || !within(what, 0, 2)) {
            return bad(BAD);
        }
        letGoNow(thing, cell, NOT_TORN);
        if (what == 0) {
            return fall.layer;
        }
        return what == 1 ? fall.down : fall.broken;
    }

    public int sink(int thing, int cell, int layer) {
        if (!takesBallast(thing) || !now.hasCell(cell) || !within(layer, 0, GROUND)) {
            return bad(BAD_TEN);
        }
        return leastBallast(thing, cell, layer, now.hour);
    }

    public int holds(int thing, int cell) {
        if (!takesBallast(thing) || !now.hasCell(cell)) {
            return bad(BAD_TEN);
        }
        letGoWithBallast(thing, cell, MOST_BALLAST, now.hour);
        return fall.stopper;
    }

    public int bestHour(int thing, int cell, int layer) {
        if (!takesBallast(thing) || !now.hasCell(cell) || !within(layer, 0, GROUND)) {
            return bad(BAD_TEN);
        }
        int best = NONE;
        int least = MOST_BALLAST + 1;
        for (int ahead = 0; ahead < TIDES; ahead++) {
            int needed = leastBallast(thing, cell, layer, now.hour + ahead);
            if (needed != NONE && needed < least) {
                least = needed;
                best = ahead;
            }
        }
        return best;
    }

    // ---- towns, spills

    public int soonest(int from, int to) {
        if (!now.hasPlace(from) || !now.hasPlace(to)) {
            return bad(BAD);
        }
        return ways.soonestWay(now, from, to);
    }

    public int net(int town) {
        if (!within(town, 0, now.towns - 1)) {
            return bad(BAD_NET);
        }
        int balance = 0;
        for (int payer = 0; payer < now.towns; payer++) {
            int ceiling = now.ceilingOf(payer);
            if (ceiling == NONE) {
                continue;
            }
            if (ceiling == town) {
                balance += now.duesOf(payer);
            }
            if (payer == town) {
                balance -= now.duesOf(payer);
            }
        }
        return balance;
    }

    public int spill(int from, int much, int h, int cell) {
        if (!isSpill(from, much, h) || !now.hasCell(cell)) {
            return bad(BAD);
        }
        spread.start(from, much);
        for (int t = 0; t < h; t++) {
            spread.goOn(now.cells, now.dams);
        }
        return spread.amounts[cell];
    }

    public int keepOut(int from, int much, int h, int cells) {
        if (!isSpill(from, much, h) || !within(cells, 0, (1 << now.cells) - 1)) {
            return bad(BAD);
        }
        int best = NONE;
        int sets = 1 << (now.cells - 1);
        for (int more = 0; more < sets; more++) {
            boolean isNew = (more & now.dams) == 0;
            boolean isFewer = best == NONE || Integer.bitCount(more) < Integer.bitCount(best);
            if (isNew && isFewer && keepsOut(from, much, h, cells, now.dams | more)) {
                best = more;
            }
        }
        return best;
    }

    public int shaken(int much, int cell, int what) {
        if (!within(much, 0, 99) || !now.hasCell(cell) || !within(what, 0, 1)) {
            return bad(BAD);
        }
        int limit = what == 0 ? 0 : now.allThick(cell);
        int hours = 0;
        int mixed = much;
        for (int t = 0; t <= much && mixed > limit; t++) {
            hours++;
            mixed -= (mixed + 3) / 4;
        }
        return hours;
    }

    // ---- what lies, what is caught

    public int lies(int volume, int cell, int layer, int h, int what) {
        if (!within(volume, 1, 9) || !now.hasCell(cell) || !within(layer, 0, GROUND)
                || !within(h, 0, LAST_HOUR) || !within(what, 0, 2)) {
            return bad(BAD_TEN);
        }
        int fitting = 0;
        int least = NONE;
        int greatest = NONE;
        for (int weight = 1; weight <= HEAVIEST; weight++) {
            fall.shape(DROWNED, weight, volume, 0, h);
            fall.letGo(now, cell, h, NOT_TORN);
            if (fall.layer == layer) {
                fitting++;
                least = least == NONE ? weight : least;
                greatest = weight;
            }
        }
        if (what == 0) {
            return fitting;
        }
        return what == 1 ? least : greatest;
    }

    public int wentIn(int thing, int cell) {
        if (!now.things.has(thing) || !now.hasCell(cell)) {
            return bad(BAD);
        }
        int bits = 0;
        for (int start = 0; start < now.cells; start++) {
            letGoNow(thing, start, NOT_TORN);
            if (fall.driftFrom(now, start) == cell) {
                bits |= 1 << start;
            }
        }
        return bits;
    }

    public int nets(int cell, int fish, int what) {
        if (!now.hasCell(cell) || !areFish(fish) || !within(what, 0, 1)) {
            return bad(BAD_TEN);
        }
        fillDowns(cell);
        int fitting = 0;
        int first = NONE;
        for (int top = 0; top <= DEEPEST_NET; top++) {
            for (int bottom = top; bottom <= DEEPEST_NET; bottom++) {
                if (caught(top, bottom) == fish) {
                    fitting++;
                    first = first == NONE ? 100 * top + bottom : first;
                }
            }
        }
        return what == 0 ? fitting : first;
    }

    public int tap(int what) {
        if (!within(what, 0, 1)) {
            return bad(BAD_TEN);
        }
        int there = now.sweetInAll();
        int resting = 0;
        int first = NONE;
        for (int one = 0; one <= MOST_TAPPED; one++) {
            for (int other = 0; other <= MOST_TAPPED; other++) {
                if (isBestTap(one, other, there) && isBestTap(other, one, there)) {
                    resting++;
                    first = first == NONE ? 10 * one + other : first;
                }
            }
        }
        return what == 0 ? resting : first;
    }

    public int known(int volume, int what) {
        if (!within(volume, 1, 9) || !within(what, 0, 1)) {
            return bad(BAD_TEN);
        }
        int fitting = 0;
        for (int weight = 1; weight <= HEAVIEST; weight++) {
            if (now.fitsDrops(volume, weight)) {
                fitting++;
            }
        }
        if (what == 0) {
            return fitting;
        }
        return fitting == 0 ? NONE : nextToTry(volume, fitting);
    }

    public int storm(int thing, int cell, int h, int c) {
        if (!now.things.has(thing) || !now.hasCell(cell) || !within(h, 0, 5) || !within(c, 0, 10)) {
            return bad(BAD);
        }
        long whole = 1;
        long stays = 1;
        for (int t = 0; t < h; t++) {
            whole *= 10;
            stays *= 10 - c;
        }
        letGoNow(thing, cell, NOT_TORN);
        int usual = fall.layer;
        long deeper = 0;
        for (int torn = 0; torn < 1 << SKINS; torn++) {
            letGoNow(thing, cell, torn);
            if (fall.layer > usual) {
                deeper += chanceOf(torn, whole, stays);
            }
        }
        putFraction(deeper, whole * whole * whole);
        return 1;
    }

    // ---- what there is

    public long part(int what) {
        if (!within(what, 0, 1)) {
            return bad(BAD);
        }
        return what == 0 ? above : below;
    }

    public int image(int i) {
        if (!within(i, 0, 1)) {
            return bad(BAD);
        }
        imageAt(i).copyFrom(now);
        imageKept[i] = true;
        return 1;
    }

    public int from(int i) {
        if (!within(i, 0, 1)) {
            return bad(BAD);
        }
        if (!imageKept[i]) {
            return counted(NO);
        }
        now.copyFrom(imageAt(i));
        return 1;
    }

    public int status(int what) {
        switch (what) {
            case 0: return refusedBad;
            case 1: return refusedNo;
            case 2: return refusedFull;
            default: return bad(-1);
        }
    }

    public int count(int what) {
        if (!within(what, 0, 8)) {
            return bad(BAD);
        }
        return what == 8 ? text.length : now.countOf(what);
    }

    public long digest() {
        long h = 887;
        for (int what = 0; what < 8; what++) {
            h = 31 * h + now.countOf(what);
        }
        h = 31 * h + text.length;
        h = now.digestWaters(h);
        h = now.digestRows(h);
        h = 31 * h + above;
        return 31 * h + below;
    }

    // ---- refusals

    /** Only for answers that are never BAD, NO or FULL by value unless they are refusals. */
    private int counted(int answer) {
        if (answer == BAD) {
            refusedBad++;
        } else if (answer == NO) {
            refusedNo++;
        } else if (answer == FULL) {
            refusedFull++;
        }
        return answer;
    }

    private int bad(int answer) {
        refusedBad++;
        return answer;
    }

    // ---- numbers as told

    private static boolean within(int x, int least, int most) {
        return x >= least && x <= most;
    }

    private static boolean isLayer(int layer) {
        return within(layer, 0, LAYERS - 1);
    }

    private boolean isSpill(int from, int much, int h) {
        return now.hasCell(from) && within(much, 0, 999) && within(h, 0, 40);
    }

    private boolean takesBallast(int thing) {
        return now.things.has(thing) && within(now.things.kinds[thing], SHIP, DIVER);
    }

    private boolean areFish(int bits) {
        if (!within(bits, 0, (1 << now.things.count) - 1)) {
            return false;
        }
        for (int i = 0; i < now.things.count; i++) {
            if ((bits >> i & 1) == 1 && now.things.kinds[i] != FISH) {
                return false;
            }
        }
        return true;
    }

    // ---- helpers of the calls

    private Sea imageAt(int i) {
        return i == 0 ? imageZero : imageOne;
    }

    private void shapeNow(int thing) {
        shapeWithBallast(thing, now.things.ballasts[thing], now.hour);
    }

    private void shapeWithBallast(int thing, int ballast, int hour) {
        Things things = now.things;
        fall.shape(things.kinds[thing], things.weights[thing], things.volumes[thing], ballast, hour);
    }

    private void letGoNow(int thing, int cell, int torn) {
        shapeNow(thing);
        fall.letGo(now, cell, now.hour, torn);
    }

    private void letGoWithBallast(int thing, int cell, int ballast, int hour) {
        shapeWithBallast(thing, ballast, hour);
        fall.letGo(now, cell, hour, NOT_TORN);
    }

    private int leastBallast(int thing, int cell, int layer, int hour) {
        for (int ballast = 0; ballast <= MOST_BALLAST; ballast++) {
            letGoWithBallast(thing, cell, ballast, hour);
            if (fall.layer == layer) {
                return ballast;
            }
        }
        return NONE;
    }

    private boolean keepsOut(int from, int much, int h, int cells, int dams) {
        spread.start(from, much);
        for (int t = 0; t < h; t++) {
            if (spread.isIn(cells)) {
                return false;
            }
            spread.goOn(now.cells, dams);
        }
        return !spread.isIn(cells);
    }

    private void fillDowns(int cell) {
        for (int i = 0; i < now.things.count; i++) {
            downs[i] = NONE;
            if (now.things.kinds[i] == FISH) {
                letGoNow(i, cell, NOT_TORN);
                downs[i] = fall.down;
            }
        }
    }

    private int caught(int top, int bottom) {
        int bits = 0;
        for (int i = 0; i < now.things.count; i++) {
            if (within(downs[i], top, bottom)) {
                bits |= 1 << i;
            }
        }
        return bits;
    }

    private static int tapped(int own, int other, int there) {
        return own - 2 * Math.max(0, own + other - there);
    }

    private static boolean isBestTap(int own, int other, int there) {
        int has = tapped(own, other, there);
        for (int otherwise = 0; otherwise <= MOST_TAPPED; otherwise++) {
            if (tapped(otherwise, other, there) > has) {
                return false;
            }
        }
        return true;
    }

    private int nextToTry(int volume, int fitting) {
        int best = NONE;
        int fewest = fitting + 1;
        for (int layer = 0; layer < LAYERS; layer++) {
            int floating = 0;
            for (int weight = 1; weight <= HEAVIEST; weight++) {
                if (now.fitsDrops(volume, weight) && weight <= volume * now.densities[layer]) {
                    floating++;
                }
            }
            int left = Math.max(floating, fitting - floating);
            if (left < fewest) {
                fewest = left;
                best = layer;
            }
        }
        return best;
    }

    private static long chanceOf(int torn, long whole, long stays) {
        long chance = 1;
        for (int skin = 0; skin < SKINS; skin++) {
            chance *= (torn >> skin & 1) == 1 ? whole - stays : stays;
        }
        return chance;
    }

    private void putFraction(long upper, long lower) {
        long a = lower;
        long b = upper;
        for (int i = 0; i < 1000 && b != 0; i++) {
            long rest = a % b;
            a = b;
            b = rest;
        }
        long shared = a == 0 ? 1 : a;
        above = upper / shared;
        below = lower / shared;
    }

    /** The things that are told, as rows side by side so that an image can be copied without new objects. */
    private static final class Things {
        int count = 0;
        final int[] kinds = new int[MOST_THINGS];
        final int[] weights = new int[MOST_THINGS];
        final int[] volumes = new int[MOST_THINGS];
        final int[] ballasts = new int[MOST_THINGS];

        boolean has(int thing) {
            return within(thing, 0, count - 1);
        }

        int add(int kind, int weight, int volume) {
            if (!within(kind, 0, FISH) || !within(weight, 1, HEAVIEST) || !within(volume, 1, 9)) {
                return BAD;
            }
            if (count >= MOST_THINGS) {
                return FULL;
            }
            kinds[count] = kind;
            weights[count] = weight;
            volumes[count] = volume;
            ballasts[count] = 0;
            return count++;
        }

        void copyFrom(Things other) {
            count = other.count;
            System.arraycopy(other.kinds, 0, kinds, 0, MOST_THINGS);
            System.arraycopy(other.weights, 0, weights, 0, MOST_THINGS);
            System.arraycopy(other.volumes, 0, volumes, 0, MOST_THINGS);
            System.arraycopy(other.ballasts, 0, ballasts, 0, MOST_THINGS);
        }
    }

    /** The lifts that are told. */
    private static final class Lifts {
        int count = 0;
        final int[] froms = new int[MOST_LIFTS];
        final int[] tos = new int[MOST_LIFTS];
        final int[] times = new int[MOST_LIFTS];

        int add(int from, int to, int time) {
            if (count >= MOST_LIFTS) {
                return FULL;
            }
            froms[count] = from;
            tos[count] = to;
            times[count] = time;
            return count++;
        }

        void copyFrom(Lifts other) {
            count = other.count;
            System.arraycopy(other.froms, 0, froms, 0, MOST_LIFTS);
            System.arraycopy(other.tos, 0, tos, 0, MOST_LIFTS);
            System.arraycopy(other.times, 0, times, 0, MOST_LIFTS);
        }
    }

    /** All that an image keeps. Its calls refuse but never count, since items of a text are not counted. */
    private static final class Sea {
        int cells = 0;
        int hour = 0;
        int dams = 0;
        final int[] densities = new int[LAYERS];
        final int[] currents = new int[LAYERS];
        final int[] tides = new int[LAYERS * TIDES];
        final int[] thicks = new int[LAYERS * MOST_CELLS];
        final int[] skins = new int[SKINS];
        final Things things = new Things();
        final Lifts lifts = new Lifts();
        int towns = 0;
        final int[] townPlaces = new int[MOST_TOWNS];
        int drops = 0;
        final int[] dropLayers = new int[MOST_DROPS];
        final int[] dropFloats = new int[MOST_DROPS];
        int undos = 0;
        final int[] hoursBefore = new int[MOST_UNDONE];

        Sea() {
            startAnew(4);
        }

        int startAnew(int n) {
            if (!within(n, 1, MOST_CELLS)) {
                return BAD;
            }
            int was = cells;
            cells = n;
            hour = 0;
            dams = 0;
            System.arraycopy(FIRST_DENSITY, 0, densities, 0, LAYERS);
            Arrays.fill(currents, 0);
            Arrays.fill(tides, 0);
            Arrays.fill(thicks, 3);
            Arrays.fill(skins, 0);
            things.count = 0;
            lifts.count = 0;
            towns = 0;
            drops = 0;
            undos = 0;
            return was;
        }

        void copyFrom(Sea other) {
            cells = other.cells;
            hour = other.hour;
            dams = other.dams;
            System.arraycopy(other.densities, 0, densities, 0, LAYERS);
            System.arraycopy(other.currents, 0, currents, 0, LAYERS);
            System.arraycopy(other.tides, 0, tides, 0, LAYERS * TIDES);
            System.arraycopy(other.thicks, 0, thicks, 0, LAYERS * MOST_CELLS);
            System.arraycopy(other.skins, 0, skins, 0, SKINS);
            things.copyFrom(other.things);
            lifts.copyFrom(other.lifts);
            towns = other.towns;
            System.arraycopy(other.townPlaces, 0, townPlaces, 0, MOST_TOWNS);
            drops = other.drops;
            System.arraycopy(other.dropLayers, 0, dropLayers, 0, MOST_DROPS);
            System.arraycopy(other.dropFloats, 0, dropFloats, 0, MOST_DROPS);
            undos = other.undos;
            System.arraycopy(other.hoursBefore, 0, hoursBefore, 0, MOST_UNDONE);
        }

        boolean hasCell(int cell) {
            return within(cell, 0, cells - 1);
        }

        boolean hasPlace(int place) {
            return place >= 0 && hasCell(place / 10) && isLayer(place % 10);
        }

        int putDensity(int layer, int density) {
            if (!isLayer(layer) || !within(density, 1, 99)) {
                return BAD;
            }
            boolean aboveIsLess = layer == 0 || densities[layer - 1] < density;
            boolean belowIsMore = layer == LAYERS - 1 || densities[layer + 1] > density;
            if (!aboveIsLess || !belowIsMore) {
                return NO;
            }
            int was = densities[layer];
            densities[layer] = density;
            return was;
        }

        int putThick(int layer, int cell, int n) {
            if (!isLayer(layer) || !hasCell(cell) || !within(n, 0, 9)) {
                return BAD;
            }
            int at = layer * MOST_CELLS + cell;
            int was = thicks[at];
            thicks[at] = n;
            return was;
        }

        int putSkin(int skin, int n) {
            if (!within(skin, 0, SKINS - 1) || !within(n, 0, MOST_BORNE)) {
                return BAD;
            }
            int was = skins[skin];
            skins[skin] = n;
            return was;
        }

        int addLift(int from, int to, int time) {
            if (!hasPlace(from) || !hasPlace(to) || from == to || !within(time, 1, 9)) {
                return BAD;
            }
            return lifts.add(from, to, time);
        }

        int addTown(int place) {
            if (!hasPlace(place)) {
                return BAD;
            }
            for (int i = 0; i < towns; i++) {
                if (townPlaces[i] == place) {
                    return NO;
                }
            }
            if (towns >= MOST_TOWNS) {
                return FULL;
            }
            townPlaces[towns] = place;
            return towns++;
        }

        int putDam(int k, boolean is) {
            if (!within(k, 0, cells - 2)) {
                return BAD;
            }
            if ((dams >> k & 1) == (is ? 1 : 0)) {
                return NO;
            }
            dams ^= 1 << k;
            return 1;
        }

        int addDrop(int layer, boolean floated) {
            if (!isLayer(layer)) {
                return BAD;
            }
            if (drops >= MOST_DROPS) {
                return FULL;
            }
            dropLayers[drops] = layer;
            dropFloats[drops] = floated ? 1 : 0;
            drops++;
            return drops;
        }

        int empty(int what) {
            if (!within(what, 0, 3)) {
                return BAD;
            }
            int had;
            if (what == 0) {
                had = things.count;
                things.count = 0;
            } else if (what == 1) {
                had = lifts.count;
                lifts.count = 0;
            } else if (what == 2) {
                had = towns;
                towns = 0;
            } else {
                had = drops;
                drops = 0;
            }
            return had;
        }

        int goOn(int n) {
            if (!within(n, 1, 99)) {
                return BAD;
            }
            if (hour + n > LAST_HOUR) {
                return NO;
            }
            if (undos >= MOST_UNDONE) {
                System.arraycopy(hoursBefore, 1, hoursBefore, 0, MOST_UNDONE - 1);
                undos = MOST_UNDONE - 1;
            }
            hoursBefore[undos] = hour;
            undos++;
            hour += n;
            return hour;
        }

        int goBack() {
            if (undos <= 0) {
                return NO;
            }
            undos--;
            hour = hoursBefore[undos];
            return 1;
        }

        int thickAt(int layer, int cell, int anHour) {
            return Math.max(0, thicks[layer * MOST_CELLS + cell] + tides[layer * TIDES + anHour % TIDES]);
        }

        int allThick(int cell) {
            int all = 0;
            for (int layer = 0; layer < LAYERS; layer++) {
                all += thickAt(layer, cell, hour);
            }
            return all;
        }

        int sweetInAll() {
            int all = 0;
            for (int cell = 0; cell < cells; cell++) {
                all += thickAt(0, cell, hour);
            }
            return all;
        }

        /** The number of the town that is paid by a town, or NONE. */
        int ceilingOf(int payer) {
            int place = townPlaces[payer];
            int nearest = NONE;
            int nearestPlace = NONE;
            for (int i = 0; i < towns; i++) {
                int other = townPlaces[i];
                boolean isAbove = other / 10 == place / 10 && other < place;
                if (isAbove && other > nearestPlace) {
                    nearest = i;
                    nearestPlace = other;
                }
            }
            return nearest;
        }

        int duesOf(int payer) {
            int place = townPlaces[payer];
            return thickAt(place % 10, place / 10, hour);
        }

        boolean fitsDrops(int volume, int weight) {
            for (int i = 0; i < drops; i++) {
                boolean floats = weight <= volume * densities[dropLayers[i]];
                if (floats != (dropFloats[i] == 1)) {
                    return false;
                }
            }
            return true;
        }

        int countOf(int what) {
            switch (what) {
                case 0: return cells;
                case 1: return hour;
                case 2: return things.count;
                case 3: return lifts.count;
                case 4: return towns;
                case 5: return dams;
                case 6: return drops;
                default: return undos;
            }
        }

        long digestWaters(long begun) {
            long h = begun;
            for (int layer = 0; layer < LAYERS; layer++) {
                h = 31 * h + densities[layer];
                h = 31 * h + currents[layer];
                for (int at = 0; at < TIDES; at++) {
                    h = 31 * h + tides[layer * TIDES + at];
                }
                for (int cell = 0; cell < cells; cell++) {
                    h = 31 * h + thicks[layer * MOST_CELLS + cell];
                }
            }
            for (int skin = 0; skin < SKINS; skin++) {
                h = 31 * h + skins[skin];
            }
            return h;
        }

        long digestRows(long begun) {
            long h = begun;
            for (int i = 0; i < things.count; i++) {
                h = 31 * h + things.kinds[i];
                h = 31 * h + things.weights[i];
                h = 31 * h + things.volumes[i];
                h = 31 * h + things.ballasts[i];
            }
            for (int i = 0; i < lifts.count; i++) {
                h = 31 * h + lifts.froms[i];
                h = 31 * h + lifts.tos[i];
                h = 31 * h + lifts.times[i];
            }
            for (int i = 0; i < towns; i++) {
                h = 31 * h + townPlaces[i];
            }
            for (int i = 0; i < drops; i++) {
                h = 31 * h + dropLayers[i];
                h = 31 * h + dropFloats[i];
            }
            return h;
        }
    }

    /** A body by its kind and hour, and where it comes to rest; one is made and used again for every fall. */
    private static final class Fall {
        int weighs = 0;
        int room = 0;
        /** It breaks the skins that bear less than this. */
        int force = 0;
        int layer = 0;
        int down = 0;
        int broken = 0;
        int stopper = NONE;
        final int[] passedThick = new int[LAYERS];

        void shape(int kind, int weight, int volume, int ballast, int hour) {
            weighs = weightOf(kind, weight, ballast, hour);
            room = roomOf(kind, volume, hour);
            force = forceOf(kind, weighs);
        }

        private static int weightOf(int kind, int weight, int ballast, int hour) {
            switch (kind) {
                case SHIP:
                case BOTTLE: return weight + ballast;
                case DIVER: return weight + ballast + 2 * Math.min(hour, 10);
                default: return weight;
            }
        }

        private static int roomOf(int kind, int volume, int hour) {
            switch (kind) {
                case BOTTLE:
                case DIVER: return volume + 1;
                case DROWNED: return volume + Math.min(hour / 4, 5);
                default: return volume;
            }
        }

        private static int forceOf(int kind, int weighs) {
            switch (kind) {
                case BOTTLE: return weighs / 2;
                case DIVER: return MOST_BORNE + 1;
                case FISH: return 0;
                default: return weighs;
            }
        }

        void letGo(Sea sea, int cell, int hour, int torn) {
            forget();
            int last = NONE;
            for (int next = 0; next < LAYERS; next++) {
                int thick = sea.thickAt(next, cell, hour);
                if (thick == 0) {
                    continue;
                }
                if (last != NONE && !getsThrough(sea, next - 1, torn)) {
                    stopper = next - 1;
                    layer = last;
                    return;
                }
                if (weighs <= room * sea.densities[next]) {
                    layer = next;
                    return;
                }
                passedThick[next] = thick;
                down += thick;
                last = next;
            }
            layer = GROUND;
        }

        private void forget() {
            down = 0;
            broken = 0;
            stopper = NONE;
            Arrays.fill(passedThick, 0);
        }

        private boolean getsThrough(Sea sea, int skin, int torn) {
            if ((torn >> skin & 1) == 1) {
                return true;
            }
            if (sea.skins[skin] >= force) {
                return false;
            }
            broken |= 1 << skin;
            return true;
        }

        /** The cell to which the last fall came; at the sea's edge it stays. */
        int driftFrom(Sea sea, int start) {
            int at = start;
            for (int passed = 0; passed < LAYERS; passed++) {
                for (int t = 0; t < passedThick[passed]; t++) {
                    at = Math.max(0, Math.min(sea.cells - 1, at + sea.currents[passed]));
                }
            }
            return at;
        }
    }

    /** How much of a spill is in each cell. */
    private static final class Spread {
        final int[] amounts = new int[MOST_CELLS];
        private final int[] gifts = new int[MOST_CELLS];

        void start(int from, int much) {
            Arrays.fill(amounts, 0);
            amounts[from] = much;
        }

        void goOn(int cells, int dams) {
            for (int cell = 0; cell < cells; cell++) {
                gifts[cell] = amounts[cell] / 4;
            }
            for (int k = 0; k < cells - 1; k++) {
                if ((dams >> k & 1) == 0) {
                    amounts[k] += gifts[k + 1] - gifts[k];
                    amounts[k + 1] += gifts[k] - gifts[k + 1];
                }
            }
        }

        boolean isIn(int cells) {
            for (int cell = 0; cell < MOST_CELLS; cell++) {
                if ((cells >> cell & 1) == 1 && amounts[cell] > 0) {
                    return true;
                }
            }
            return false;
        }
    }

    /** The soonest ways from one place to all. */
    private static final class Ways {
        private static final int PLACES = MOST_CELLS * LAYERS, NEVER = 1000000, BESIDE = 3;
        private final int[] reached = new int[PLACES];

        int soonestWay(Sea sea, int from, int to) {
            Arrays.fill(reached, NEVER);
            reached[numberOf(from)] = 0;
            // A way that is soonest comes to no place twice, so it has fewer steps than there are places.
            for (int step = 1; step < PLACES; step++) {
                goByLifts(sea);
                goBeside(sea);
            }
            int soonest = reached[numberOf(to)];
            return soonest >= NEVER ? NONE : soonest;
        }

        private static int numberOf(int place) {
            return place / 10 * LAYERS + place % 10;
        }

        private void goByLifts(Sea sea) {
            for (int i = 0; i < sea.lifts.count; i++) {
                join(numberOf(sea.lifts.froms[i]), numberOf(sea.lifts.tos[i]), sea.lifts.times[i]);
            }
        }

        private void goBeside(Sea sea) {
            for (int cell = 0; cell < sea.cells - 1; cell++) {
                for (int layer = 0; layer < LAYERS; layer++) {
                    if (sea.thickAt(layer, cell, sea.hour) > 0 && sea.thickAt(layer, cell + 1, sea.hour) > 0) {
                        join(cell * LAYERS + layer, (cell + 1) * LAYERS + layer, BESIDE);
                    }
                }
            }
        }

        private void join(int one, int other, int time) {
            reached[one] = Math.min(reached[one], reached[other] + time);
            reached[other] = Math.min(reached[other], reached[one] + time);
        }
    }

    /** The text of a sea, and its reader. */
    private static final class Text {
        private static final int BLANK = 32, SEMICOLON = 59;
        private static final int SEA = 0, WATER = 1, THICK = 2, SKIN = 3, THING = 4, LIFT = 5, TOWN = 6, DAM = 7;
        private static final int WORDS = 8;

        int length = 0;
        int items = 0;
        int refusedItem = NONE;
        private final int[] bytes = new int[MOST_BYTES];
        private final int[] numbers = new int[3];
        private int at = 0;

        int add(int c) {
            if (!within(c, 0, 127)) {
                return BAD;
            }
            if (length >= MOST_BYTES) {
                return FULL;
            }
            bytes[length] = c;
            length++;
            return length;
        }

        /** Tells a sea anew up to the first item that is refused; the answer is the fault, or NONE. */
        int tell(Sea sea) {
            at = 0;
            items = 0;
            refusedItem = NONE;
            skipBlanks();
            if (at >= length) {
                return length;
            }
            for (int round = 0; round < MOST_BYTES && at < length; round++) {
                int start = at;
                int word = takeWord();
                if (word == NONE || (word == SEA) != (items == 0)) {
                    return start;
                }
                int fault = takeNumbers(numbersBehind(word));
                if (fault != NONE) {
                    return fault;
                }
                if (at >= length || bytes[at] != SEMICOLON) {
                    return at;
                }
                at++;
                if (refusedItem == NONE && tellItem(sea, word) < 0) {
                    refusedItem = items;
                }
                items++;
                skipBlanks();
            }
            return NONE;
        }

        private boolean isFigure() {
            return at < length && within(bytes[at], '0', '9');
        }

        private void skipBlanks() {
            while (at < length && bytes[at] == BLANK) {
                at++;
            }
        }

        /** Goes behind the letters that come next; which word they are, or NONE. */
        private int takeWord() {
            int start = at;
            while (at < length && within(bytes[at], 'a', 'z')) {
                at++;
            }
            for (int word = 0; word < WORDS; word++) {
                if (isWord(nameOf(word), start, at)) {
                    return word;
                }
            }
            return NONE;
        }

        private boolean isWord(String name, int start, int end) {
            if (name.length() != end - start) {
                return false;
            }
            for (int i = 0; i < name.length(); i++) {
                if (bytes[start + i] != name.charAt(i)) {
                    return false;
                }
            }
            return true;
        }

        /** Takes so many numbers, and the blanks behind them; the answer is the fault, or NONE. */
        private int takeNumbers(int many) {
            skipBlanks();
            for (int i = 0; i < many; i++) {
                if (!isFigure()) {
                    return at;
                }
                numbers[i] = bytes[at] - '0';
                at++;
                if (isFigure()) {
                    numbers[i] = 10 * numbers[i] + bytes[at] - '0';
                    at++;
                }
                // A third figure would begin a number of its own, and that may not stand there.
                if (isFigure()) {
                    return at;
                }
                skipBlanks();
            }
            return NONE;
        }

        private static String nameOf(int word) {
            switch (word) {
                case SEA: return "sea";
                case WATER: return "water";
                case THICK: return "thick";
                case SKIN: return "skin";
                case THING: return "thing";
                case LIFT: return "lift";
                case TOWN: return "town";
                default: return "dam";
            }
        }

        private static int numbersBehind(int word) {
            switch (word) {
                case SEA:
                case TOWN:
                case DAM: return 1;
                case WATER:
                case SKIN: return 2;
                default: return 3;
            }
        }

        private int tellItem(Sea sea, int word) {
            switch (word) {
                case SEA: return sea.startAnew(numbers[0]);
                case WATER: return sea.putDensity(numbers[0], numbers[1]);
                case THICK: return sea.putThick(numbers[0], numbers[1], numbers[2]);
                case SKIN: return sea.putSkin(numbers[0], numbers[1]);
                case THING: return sea.things.add(numbers[0], numbers[1], numbers[2]);
                case LIFT: return sea.addLift(numbers[0], numbers[1], numbers[2]);
                case TOWN: return sea.addTown(numbers[0]);
                default: return sea.putDam(numbers[0], true);
            }
        }
    }
}
