/**
 * A valley of diamonds, the sheep thrown into it and the eagles that carry them out.
 * The document DOC.md tells every call; words in capitals there keep their meaning here.
 */
public final class MeatForDiamonds {
    private static final int CELLS = 8;
    private static final int NESTS = 4;
    private static final int MOST_EAGLES = 4;
    private static final int MOST_SHEEP = 7;
    private static final int SHELVES = 8;
    private static final int ROW_ROOM = 100;
    private static final int HOURS = 24;
    private static final int LONGEST_WAIT = 60;
    private static final int TOO_WARY = 5;
    private static final int WORTH_OF_BIG = 5;
    private static final int PAIRS = 100;
    private static final int THROWS_OF_SEASON = 10;

    private static final int NO_SUCH = -1;
    private static final int NO_ROOM = -2;
    private static final int NOT_SO = -3;
    private static final int NONE = -4;
    private static final int NOTHING_HELD = -11;
    private static final int OTHER_KIND = -12;
    private static final int NO_PLACE = -13;
    private static final int BELOW_ZERO = -14;
    private static final int NO_FAILURE = -15;
    private static final int OF_GAIN = 1000000000;

    private final Valley now = new Valley();
    // One valley for all that is only thought of: no call makes a new one, since a run's room is small.
    private final Valley mind = new Valley();
    private final Valley kept = new Valley();
    private boolean imageTaken;
    private final Shelf[] shelves = new Shelf[SHELVES];
    // A PAIR is told as 10 times its BIG stones and its SMALL ones; NONE stands for one that does not fit.
    private final int[] rests = new int[PAIRS];

    public MeatForDiamonds() {
        for (int d = 0; d < SHELVES; d++) {
            shelves[d] = new Shelf();
        }
    }

    // ---- the valley as told

    public int valley(int d) {
        int refused = refusedBytes(d);
        if (refused != 0) {
            return refused;
        }
        Shelf text = shelves[d];
        int bad = text.firstBadByte();
        if (bad >= 0) {
            return -1000 - bad;
        }
        mind.become(now);
        int statements = 0;
        for (int at = 0; at < text.size; at++) {
            if (Shelf.digitsBehind(text.elements[at]) > 0) {
                if (!follow(text, at)) {
                    return -2000 - at;
                }
                statements++;
            }
        }
        now.become(mind);
        return statements;
    }

    public int cellOf(int c, int what) {
        if (!within(c, 0, CELLS - 1)) {
            return NO_SUCH;
        }
        switch (what) {
            case 0: return now.big[c];
            case 1: return now.small[c];
            case 2: return now.snakes[c];
            default: return NO_SUCH;
        }
    }

    public int eagle(int e, int what) {
        if (!within(e, 0, now.eagles - 1)) {
            return NO_SUCH;
        }
        switch (what) {
            case 0: return now.strength[e];
            case 1: return now.hunger[e];
            case 2: return now.home[e];
            case 3: return now.wary[e];
            default: return NO_SUCH;
        }
    }

    public int sheep(int s, int what) {
        Sheep one = now.sheepAt(s);
        if (one == null) {
            return NO_SUCH;
        }
        switch (what) {
            case 0: return one.kind;
            case 1: return one.figure;
            case 2: return one.weight;
            case 3: return one.sticks;
            case 4: return one.flies;
            case 5: return one.price;
            default: return NO_SUCH;
        }
    }

    public int nest(int n) {
        return within(n, 0, NESTS - 1) ? now.worth[n] : NO_SUCH;
    }

    public int buys(int d) {
        int refused = refusedSheep(d);
        if (refused != 0) {
            return refused;
        }
        return now.addSheep(shelves[d].held) ? now.flockSize - 1 : NO_ROOM;
    }

    public int lays(int c, int big, int small, int snakes) {
        if (!within(c, 0, CELLS - 1) || !within(big, 0, 9) || !within(small, 0, 9) || !within(snakes, 0, 9)) {
            return NO_SUCH;
        }
        int had = now.big[c];
        now.fillCell(c, big, small, snakes);
        return had;
    }

    public int set(int what, int v) {
        int was = NO_SUCH;
        if (what == 0 && within(v, 0, 1)) {
            was = now.drums;
            now.drums = v;
        } else if (what == 1 && within(v, 0, HOURS - 1)) {
            was = now.hour;
            now.hour = v;
        }
        return was;
    }

    public int throwsOne(int s, int c) {
        int refused = now.refusedThrow(s, c);
        return refused != 0 ? refused : now.throwOnto(s, c);
    }

    public int waits(int hours) {
        if (!within(hours, 1, LONGEST_WAIT)) {
            return NO_SUCH;
        }
        now.pass(hours);
        return now.hour;
    }

    // ---- throws in mind

    public int brings(int s, int c, int what) {
        int refused = within(what, 0, 3) ? now.refusedThrow(s, c) : NO_SUCH;
        if (refused != 0) {
            return refused;
        }
        Sheep one = now.flock[s];
        if (what == 0) {
            return now.broughtBy(one, c);
        }
        if (what == 3) {
            return now.isEaten(one, c) ? 1 : 0;
        }
        int taker = now.takerOf(one, c);
        return what == 1 || taker == NONE ? taker : now.home[taker];
    }

    public int bestCell(int s) {
        Sheep one = now.sheepAt(s);
        return one == null ? NO_SUCH : now.richestCell(one);
    }

    public int bestThrow() {
        return now.richestThrow();
    }

    public int gain() {
        return now.flockSize == 0 ? OF_GAIN - NONE : now.richestGain();
    }

    public int bestHour(int s, int c, int what) {
        int refused = within(what, 0, 1) ? now.refusedThrow(s, c) : NO_SUCH;
        if (refused != 0) {
            return refused;
        }
        int best = 0;
        int most = -1;
        for (int h = 0; h < HOURS; h++) {
            mind.become(now);
            mind.pass(h);
            int brought = mind.broughtBy(now.flock[s], c);
            if (brought > most) {
                most = brought;
                best = h;
            }
        }
        return what == 0 ? best : most;
    }

    public int twoThrows(int what) {
        if (!within(what, 0, 1)) {
            return OF_GAIN - NO_SUCH;
        }
        if (now.flockSize == 0) {
            return OF_GAIN - NONE;
        }
        int best = NONE;
        int most = 0;
        for (int s = 0; s < now.flockSize; s++) {
            for (int c = 0; c <= now.flock[s].flies; c++) {
                mind.become(now);
                int first = mind.throwOnto(s, c) - mind.flock[s].price;
                int both = first + mind.richestGain();
                if (best == NONE || both > most) {
                    most = both;
                    best = 10 * s + c;
                }
            }
        }
        return what == 0 ? most : best;
    }

    public int greedily(int n, int what) {
        if (!within(n, 0, 20) || !within(what, 0, 1)) {
            return NO_SUCH;
        }
        mind.become(now);
        int together = 0;
        int thrown = 0;
        while (thrown < n) {
            int best = mind.richestThrow();
            int more = best == NONE ? 0 : mind.gainOf(best / 10, best % 10);
            if (more <= 0) {
                break;
            }
            mind.throwOnto(best / 10, best % 10);
            together += more;
            thrown++;
        }
        return what == 0 ? together : thrown;
    }

    public int drum(int s, int c, int n, int what) {
        int refused = within(n, 0, 8) && within(what, 0, 1) ? now.refusedThrow(s, c) : NO_SUCH;
        if (refused != 0) {
            return refused;
        }
        int best = 0;
        int most = -1;
        for (int bits = 0; bits < 1 << n; bits++) {
            int brought = broughtDrumming(s, c, n, bits);
            if (brought > most) {
                most = brought;
                best = bits;
            }
        }
        return what == 0 ? best : most;
    }

    // ---- eagles, snakes, what is left

    public int lifts(int e, int what) {
        if (!within(e, 0, now.eagles - 1) || !within(what, 0, 1)) {
            return NO_SUCH;
        }
        int most = now.strength[e] + now.hunger[e];
        if (what == 0) {
            return most;
        }
        int light = 0;
        for (int s = 0; s < now.flockSize; s++) {
            if (now.flock[s].weight <= most) {
                light++;
            }
        }
        return light;
    }

    public int man(int w) {
        if (!within(w, 1, 60)) {
            return NO_SUCH;
        }
        for (int h = 0; h <= LONGEST_WAIT; h++) {
            mind.become(now);
            mind.pass(h);
            if (mind.carrierOf(w) != NONE) {
                return h;
            }
        }
        return NONE;
    }

    public int safe(int s) {
        Sheep one = now.sheepAt(s);
        if (one == null) {
            return NO_SUCH;
        }
        int bits = 0;
        for (int c = 0; c < CELLS; c++) {
            if (!now.isEaten(one, c)) {
                bits |= 1 << c;
            }
        }
        return bits;
    }

    public int noon() {
        return now.snakesSleep() ? 0 : (Valley.NOON + HOURS - now.hour) % HOURS;
    }

    public int left(int what) {
        if (!within(what, 0, 1)) {
            return NO_SUCH;
        }
        int all = 0;
        int richest = 0;
        for (int c = 0; c < CELLS; c++) {
            all += now.worthIn(c);
            if (now.worthIn(c) > now.worthIn(richest)) {
                richest = c;
            }
        }
        return what == 0 ? all : richest;
    }

    // ---- what came up

    public int still(int s, int d, int what) {
        int refused = within(what, 0, 2) ? refusedTold(s, d) : NO_SUCH;
        if (refused != 0) {
            return refused;
        }
        fitPairs(now.flock[s], shelves[d]);
        int pairs = 0;
        int least = NONE;
        for (int pair = PAIRS - 1; pair >= 0; pair--) {
            if (rests[pair] != NONE) {
                pairs++;
                least = pair;
            }
        }
        if (what == 0) {
            return pairs;
        }
        return what == 1 || least == NONE ? least : worthOfPair(rests[least]);
    }

    public int tellsMost(int s, int d, int what) {
        int refused = within(what, 0, 1) ? refusedTold(s, d) : NO_SUCH;
        if (refused != 0) {
            return refused;
        }
        fitPairs(now.flock[s], shelves[d]);
        int best = NONE;
        int most = 0;
        for (int t = 0; t < now.flockSize; t++) {
            int parts = unlikeNumbers(now.flock[t]);
            if (parts > most) {
                most = parts;
                best = t;
            }
        }
        return what == 0 || best == NONE ? best : most;
    }

    public int whose(int c, int v) {
        if (!within(c, 0, CELLS - 1) || v < 0) {
            return NO_SUCH;
        }
        int bits = 0;
        for (int s = 0; s < now.flockSize; s++) {
            if (c <= now.flock[s].flies && now.broughtBy(now.flock[s], c) == v) {
                bits |= 1 << s;
            }
        }
        return bits;
    }

    public long mean(int s, int part) {
        Sheep one = now.sheepAt(s);
        if (one == null || !within(part, 0, 1)) {
            return OF_GAIN - NO_SUCH;
        }
        int above = 0;
        int below = 0;
        for (int c = 0; c <= one.flies; c++) {
            above += now.broughtBy(one, c);
            below++;
        }
        // From above down, so that the first that divides both is the greatest.
        for (int divisor = below; divisor >= 2; divisor--) {
            if (above % divisor == 0 && below % divisor == 0) {
                above /= divisor;
                below /= divisor;
            }
        }
        return part == 0 ? above : below;
    }

    // ---- merchants, nests

    public int merchants(int c) {
        if (!within(c, 0, CELLS - 1)) {
            return NO_SUCH;
        }
        // The first throws ahead of the other, so his gain never hangs on the other's choice:
        // his best choice with the other's best answer is a pair that nobody leaves.
        mind.become(now);
        int first = mind.bestChoice(c);
        if (first < mind.flockSize) {
            mind.throwOnto(first, c);
        }
        return 10 * first + mind.bestChoice(c);
    }

    public int quarrel(int what) {
        int richest = 0;
        int poorest = 0;
        for (int n = 1; n < NESTS; n++) {
            if (now.worth[n] > now.worth[richest]) {
                richest = n;
            }
            if (now.worth[n] < now.worth[poorest]) {
                poorest = n;
            }
        }
        switch (what) {
            case 0: return now.worth[richest] - now.worth[poorest];
            case 1: return richest;
            case 2: return now.shared();
            default: return NO_SUCH;
        }
    }

    public int forged(int s, int d) {
        int refused = refusedTold(s, d);
        return refused != 0 ? refused : fitPairs(now.flock[s], shelves[d]);
    }

    public int judge(int s, int c, int d) {
        int refused = within(d, 0, SHELVES - 1) ? now.refusedThrow(s, c) : NO_SUCH;
        if (refused == 0) {
            refused = refusedRow(d);
        }
        if (refused != 0) {
            return refused;
        }
        Shelf told = shelves[d];
        mind.become(now);
        for (int i = 0; i < told.size; i++) {
            // A throw of which nothing is told is thrown all the same: those behind it come after it.
            int brought = mind.throwOnto(s, c);
            if (told.elements[i] != told.leastNumber() && told.elements[i] != brought) {
                return i;
            }
        }
        return NONE;
    }

    public int seasons(int n, int z, int what) {
        if (!within(n, 1, 20) || !within(what, 0, 1)) {
            return NO_SUCH;
        }
        if (now.flockSize == 0) {
            return NOT_SO;
        }
        int seed = z;
        int brought = 0;
        int eaten = 0;
        for (int i = 0; i < n * THROWS_OF_SEASON; i++) {
            if (i % THROWS_OF_SEASON == 0) {
                mind.become(now);
            }
            seed = nextSeed(seed);
            int s = drawn(seed, mind.flockSize);
            seed = nextSeed(seed);
            int c = drawn(seed, 1 + mind.flock[s].flies);
            if (mind.isEaten(mind.flock[s], c)) {
                eaten++;
            }
            brought += mind.throwOnto(s, c);
        }
        return what == 0 ? brought : eaten;
    }

    // ---- the image, what is told

    public int image() {
        kept.become(now);
        imageTaken = true;
        return now.hour;
    }

    public int restore() {
        if (!imageTaken) {
            return NOT_SO;
        }
        now.become(kept);
        return now.hour;
    }

    public int count(int what) {
        switch (what) {
            case 0: return now.eagles;
            case 1: return now.flockSize;
            case 2: return now.hour;
            case 3: return now.drums;
            case 4: return sum(now.big, CELLS);
            case 5: return sum(now.small, CELLS);
            case 6: return sum(now.worth, NESTS);
            case 7: return sum(now.hunger, now.eagles);
            default: return NO_SUCH;
        }
    }

    // ---- shelves

    public int keep(int d, int what, int k, int figure) {
        if (!within(d, 0, SHELVES - 1) || !within(what, 0, 1)) {
            return NO_SUCH;
        }
        Sheep one = what == 1 ? newSheep(k, figure) : null;
        if (what == 1 && one == null) {
            return NO_SUCH;
        }
        shelves[d].holdSheep(one);
        return 0;
    }

    public int row(int d, int sort, int n) {
        if (!within(d, 0, SHELVES - 1) || !within(sort, 0, 2) || n > ROW_ROOM) {
            return NO_SUCH;
        }
        if (n < 0) {
            return BELOW_ZERO;
        }
        shelves[d].holdRow(sort, n);
        return 0;
    }

    public int put(int d, int i, int v) {
        int refused = refusedRow(d);
        if (refused != 0) {
            return refused;
        }
        if (!within(i, 0, shelves[d].size - 1)) {
            return NO_PLACE;
        }
        shelves[d].elements[i] = shelves[d].cutToSort(v);
        return 0;
    }

    public long element(int d, int i) throws IllegalArgumentException, IllegalStateException {
        if (!within(d, 0, SHELVES - 1)) {
            throw new IllegalArgumentException("no such shelf");
        }
        if (!shelves[d].holdsRow || !within(i, 0, shelves[d].size - 1)) {
            throw new IllegalStateException("no row, or no such place in it");
        }
        return shelves[d].elements[i];
    }

    public int copy(int d, int i, int e, int j, int n) {
        if (!within(d, 0, SHELVES - 1) || !within(e, 0, SHELVES - 1)) {
            return NO_SUCH;
        }
        Shelf from = shelves[d];
        Shelf to = shelves[e];
        if (from.isEmpty() || to.isEmpty()) {
            return NOTHING_HELD;
        }
        if (!from.holdsRow || !to.holdsRow || from.sort != to.sort) {
            return OTHER_KIND;
        }
        // n is taken from the sizes, not added to the places: a sum could wrap around.
        if (n < 0 || !within(i, 0, from.size - n) || !within(j, 0, to.size - n)) {
            return NO_PLACE;
        }
        System.arraycopy(from.elements, i, to.elements, j, n);
        return n;
    }

    public int cost(int d) {
        int refused = refusedSheep(d);
        return refused != 0 ? refused : shelves[d].held.costs;
    }

    public int toss(int d) {
        int refused = refusedSheep(d);
        return refused != 0 ? refused : caughtFailure(shelves[d].held);
    }

    // ---- what the calls share

    private static boolean within(int v, int least, int most) {
        return v >= least && v <= most;
    }

    private static int sum(int[] numbers, int upTo) {
        int all = 0;
        for (int i = 0; i < upTo && i < numbers.length; i++) {
            all += numbers[i];
        }
        return all;
    }

    private int refusedHeld(int d) {
        if (!within(d, 0, SHELVES - 1)) {
            return NO_SUCH;
        }
        return shelves[d].isEmpty() ? NOTHING_HELD : 0;
    }

    private int refusedSheep(int d) {
        int refused = refusedHeld(d);
        if (refused != 0) {
            return refused;
        }
        return shelves[d].held == null ? OTHER_KIND : 0;
    }

    private int refusedRow(int d) {
        int refused = refusedHeld(d);
        if (refused != 0) {
            return refused;
        }
        return shelves[d].holdsRow ? 0 : OTHER_KIND;
    }

    private int refusedBytes(int d) {
        int refused = refusedRow(d);
        if (refused != 0) {
            return refused;
        }
        return shelves[d].sort == Shelf.BYTES ? 0 : OTHER_KIND;
    }

    private int refusedTold(int s, int d) {
        return now.sheepAt(s) == null ? NO_SUCH : refusedRow(d);
    }

    private static Sheep newSheep(int kind, int figure) {
        if (!within(figure, 0, 9)) {
            return null;
        }
        switch (kind) {
            case 0: return new Sheep(kind, figure);
            case 1: return new ThinSheep(kind, figure);
            case 2: return new FatSheep(kind, figure);
            case 3: return new TiedSheep(kind, figure);
            case 4: return new PaintedSheep(kind, figure);
            case 5: return new DoubleSheep(kind, figure);
            case 6: return new StolenSheep(kind, figure);
            case 7: return new Bone(kind, figure);
            default: return null;
        }
    }

    private static int caughtFailure(Sheep one) {
        try {
            one.fail();
        } catch (IllegalStateException plain) {
            return one.figure;
        } catch (IllegalArgumentException fat) {
            return 100 + one.figure;
        } catch (UnsupportedOperationException tied) {
            return 200 + one.costs;
        }
        return NO_FAILURE;
    }

    /** Follows, in mind, the STATEMENT whose letter stands at a place; false: it is not as it must be. */
    private boolean follow(Shelf text, int at) {
        switch (text.elements[at]) {
            case 'c': return followCell(text, at);
            case 'e': return followEagle(text, at);
            case 's': return mind.addSheep(newSheep(text.number(at + 1, 1), text.number(at + 2, 1)));
            case 'd': return followDrums(text.number(at + 1, 1));
            case 'h': return followWait(text.number(at + 1, 2));
            default: return followThrow(text.number(at + 1, 1), text.number(at + 2, 1));
        }
    }

    private boolean followCell(Shelf text, int at) {
        int c = text.number(at + 1, 1);
        if (!within(c, 0, CELLS - 1)) {
            return false;
        }
        mind.fillCell(c, text.number(at + 2, 1), text.number(at + 3, 1), text.number(at + 4, 1));
        return true;
    }

    private boolean followEagle(Shelf text, int at) {
        int strength = text.number(at + 1, 2);
        int home = text.number(at + 4, 1);
        return within(strength, 1, 30) && within(home, 0, NESTS - 1)
            && mind.addEagle(strength, text.number(at + 3, 1), home);
    }

    private boolean followDrums(int drums) {
        if (!within(drums, 0, 1)) {
            return false;
        }
        mind.drums = drums;
        return true;
    }

    private boolean followWait(int hours) {
        if (!within(hours, 1, LONGEST_WAIT)) {
            return false;
        }
        mind.pass(hours);
        return true;
    }

    private boolean followThrow(int s, int c) {
        if (mind.refusedThrow(s, c) != 0) {
            return false;
        }
        mind.throwOnto(s, c);
        return true;
    }

    private int broughtDrumming(int s, int c, int n, int bits) {
        mind.become(now);
        int brought = 0;
        for (int i = 0; i < n; i++) {
            mind.drums = bits >> i & 1;
            brought += mind.throwOnto(s, c);
        }
        return brought;
    }

    private static int worthOfPair(int pair) {
        return WORTH_OF_BIG * (pair / 10) + pair % 10;
    }

    /** How many of a PAIR's stones, told like a PAIR, one sheep that STICKS so much would hold. */
    private static int stuckOf(int pair, int sticks) {
        int big = Math.min(pair / 10, sticks);
        return 10 * big + Math.min(pair % 10, sticks - big);
    }

    /** Fills in what the told THROWS leave of each PAIR; the first place at which no PAIR fits, or NONE. */
    private int fitPairs(Sheep one, Shelf told) {
        for (int pair = 0; pair < PAIRS; pair++) {
            rests[pair] = pair;
        }
        for (int i = 0; i < told.size; i++) {
            boolean someFits = false;
            for (int pair = 0; pair < PAIRS; pair++) {
                rests[pair] = restOf(rests[pair], one.sticks, told.elements[i]);
                if (rests[pair] != NONE) {
                    someFits = true;
                }
            }
            if (!someFits) {
                return i;
            }
        }
        return NONE;
    }

    private static int restOf(int pair, int sticks, int brought) {
        if (pair == NONE) {
            return NONE;
        }
        int stuck = stuckOf(pair, sticks);
        return worthOfPair(stuck) == brought ? pair - stuck : NONE;
    }

    /** Into how many unlike numbers a sheep's THROW parts the PAIRS that fit. */
    private int unlikeNumbers(Sheep next) {
        long seen = 0;
        for (int pair = 0; pair < PAIRS; pair++) {
            if (rests[pair] != NONE) {
                // No pair is worth more than 54, so a long has a bit for each number.
                seen |= 1L << worthOfPair(stuckOf(rests[pair], next.sticks));
            }
        }
        return Long.bitCount(seen);
    }

    private static int nextSeed(int seed) {
        return seed * 1103515245 + 12345;
    }

    private static int drawn(int seed, int below) {
        return below <= 0 ? 0 : (seed & 0x7fffffff) / 65536 % below;
    }

    /** All that THE IMAGE holds. */
    private static final class Valley {
        static final int NOON = 11;
        static final int NOON_ENDS = 13;

        final int[] big = new int[CELLS];
        final int[] small = new int[CELLS];
        final int[] snakes = new int[CELLS];
        final int[] worth = new int[NESTS];
        int eagles;
        final int[] strength = new int[MOST_EAGLES];
        final int[] hunger = new int[MOST_EAGLES];
        final int[] home = new int[MOST_EAGLES];
        final int[] wary = new int[MOST_EAGLES];
        int flockSize;
        final Sheep[] flock = new Sheep[MOST_SHEEP];
        int hour = 6;
        int drums;

        void become(Valley other) {
            System.arraycopy(other.big, 0, big, 0, CELLS);
            System.arraycopy(other.small, 0, small, 0, CELLS);
            System.arraycopy(other.snakes, 0, snakes, 0, CELLS);
            System.arraycopy(other.worth, 0, worth, 0, NESTS);
            System.arraycopy(other.strength, 0, strength, 0, MOST_EAGLES);
            System.arraycopy(other.hunger, 0, hunger, 0, MOST_EAGLES);
            System.arraycopy(other.home, 0, home, 0, MOST_EAGLES);
            System.arraycopy(other.wary, 0, wary, 0, MOST_EAGLES);
            // Sheep never change, so the valleys may share them.
            for (int s = 0; s < MOST_SHEEP; s++) {
                flock[s] = other.flock[s];
            }
            eagles = other.eagles;
            flockSize = other.flockSize;
            hour = other.hour;
            drums = other.drums;
        }

        Sheep sheepAt(int s) {
            return within(s, 0, flockSize - 1) ? flock[s] : null;
        }

        boolean addSheep(Sheep one) {
            if (one == null || flockSize >= MOST_SHEEP) {
                return false;
            }
            flock[flockSize] = one;
            flockSize++;
            return true;
        }

        boolean addEagle(int itsStrength, int itsHunger, int itsHome) {
            if (eagles >= MOST_EAGLES) {
                return false;
            }
            strength[eagles] = itsStrength;
            hunger[eagles] = itsHunger;
            home[eagles] = itsHome;
            wary[eagles] = 0;
            eagles++;
            return true;
        }

        void fillCell(int c, int bigOnes, int smallOnes, int itsSnakes) {
            big[c] = bigOnes;
            small[c] = smallOnes;
            snakes[c] = itsSnakes;
        }

        int worthIn(int c) {
            return WORTH_OF_BIG * big[c] + small[c];
        }

        int refusedThrow(int s, int c) {
            Sheep one = sheepAt(s);
            if (one == null || !within(c, 0, CELLS - 1)) {
                return NO_SUCH;
            }
            return c > one.flies ? NOT_SO : 0;
        }

        boolean snakesSleep() {
            return hour >= NOON && hour <= NOON_ENDS;
        }

        boolean isEaten(Sheep one, int c) {
            return snakes[c] > one.weight / 2 && !snakesSleep();
        }

        /** The EAGLE that carries such a WEIGHT, or NONE. */
        int carrierOf(int weight) {
            int carrier = NONE;
            for (int e = 0; e < eagles; e++) {
                boolean can = strength[e] + hunger[e] >= weight && wary[e] < TOO_WARY;
                if (can && (carrier == NONE || hunger[e] > hunger[carrier])) {
                    carrier = e;
                }
            }
            return carrier;
        }

        /** The EAGLE that would come for a sheep in a CELL, or NONE. */
        int takerOf(Sheep one, int c) {
            return isEaten(one, c) ? NONE : carrierOf(one.weight);
        }

        /** The stones that one sheep would hold in a CELL, told like a PAIR. */
        int stuckIn(Sheep one, int c) {
            return stuckOf(10 * big[c] + small[c], one.sticks);
        }

        int broughtBy(Sheep one, int c) {
            return takerOf(one, c) == NONE ? 0 : worthOfPair(stuckIn(one, c));
        }

        int throwOnto(int s, int c) {
            int taker = takerOf(flock[s], c);
            for (int e = 0; e < eagles; e++) {
                if (e != taker) {
                    hunger[e] = Math.min(9, hunger[e] + 1);
                }
            }
            hour = (hour + 1) % HOURS;
            return taker == NONE ? 0 : carryOff(flock[s], c, taker);
        }

        int carryOff(Sheep one, int c, int e) {
            int stuck = stuckIn(one, c);
            big[c] -= stuck / 10;
            small[c] -= stuck % 10;
            worth[home[e]] += worthOfPair(stuck);
            if (drums == 1) {
                hunger[e] = Math.min(9, hunger[e] + 1);
                wary[e] = Math.min(9, wary[e] + 1);
            } else {
                hunger[e] = Math.max(0, hunger[e] - one.weight / 3);
                wary[e] = Math.max(0, wary[e] - 1);
            }
            return worthOfPair(stuck);
        }

        void pass(int hours) {
            hour = (hour + hours) % HOURS;
            for (int e = 0; e < eagles; e++) {
                hunger[e] = Math.min(9, hunger[e] + hours / 4);
            }
        }

        int richestCell(Sheep one) {
            int best = 0;
            int most = 0;
            // The same eagle comes to every cell, so it is looked for once.
            boolean carried = carrierOf(one.weight) != NONE;
            for (int c = 0; carried && c <= one.flies; c++) {
                int brought = isEaten(one, c) ? 0 : worthOfPair(stuckIn(one, c));
                if (brought > most) {
                    most = brought;
                    best = c;
                }
            }
            return best;
        }

        int richestThrow() {
            int best = NONE;
            int most = 0;
            for (int s = 0; s < flockSize; s++) {
                int c = richestCell(flock[s]);
                // Not by gainOf, which would be one call deeper: eight is the most.
                int more = broughtBy(flock[s], c) - flock[s].price;
                if (best == NONE || more > most) {
                    most = more;
                    best = 10 * s + c;
                }
            }
            return best;
        }

        /** The GAIN of the BEST THROW, 0 without sheep. */
        int richestGain() {
            int best = richestThrow();
            return best == NONE ? 0 : gainOf(best / 10, best % 10);
        }

        int gainOf(int s, int c) {
            return broughtBy(flock[s], c) - flock[s].price;
        }

        /** What a merchant throws onto a CELL: a sheep, or the number of sheep for none. */
        int bestChoice(int c) {
            int best = flockSize;
            int most = 0;
            // From the last one down, so that of several the least stays.
            for (int s = flockSize - 1; s >= 0; s--) {
                if (c <= flock[s].flies && gainOf(s, c) >= most) {
                    most = gainOf(s, c);
                    best = s;
                }
            }
            return best;
        }

        /** How much must change NESTS: the more of what stands over the upper share and what lacks to the lower. */
        int shared() {
            int share = sum(worth, NESTS) / NESTS;
            int over = 0;
            int lacking = 0;
            for (int n = 0; n < NESTS; n++) {
                over += Math.max(0, worth[n] - share - 1);
                lacking += Math.max(0, share - worth[n]);
            }
            return Math.max(over, lacking);
        }
    }

    /** Holds nothing, a sheep or a ROW; its room for a ROW is made once. */
    private static final class Shelf {
        static final int BYTES = 0;
        static final int SHORTS = 1;

        Sheep held;
        boolean holdsRow;
        int sort;
        int size;
        final int[] elements = new int[ROW_ROOM];

        boolean isEmpty() {
            return held == null && !holdsRow;
        }

        /** Null for nothing. */
        void holdSheep(Sheep one) {
            held = one;
            holdsRow = false;
            size = 0;
        }

        void holdRow(int itsSort, int itsSize) {
            held = null;
            holdsRow = true;
            sort = itsSort;
            size = itsSize;
            for (int i = 0; i < ROW_ROOM; i++) {
                elements[i] = 0;
            }
        }

        int cutToSort(int v) {
            if (sort == BYTES) {
                return (byte) v;
            }
            return sort == SHORTS ? (short) v : v;
        }

        int leastNumber() {
            if (sort == BYTES) {
                return -128;
            }
            return sort == SHORTS ? -32768 : -2147483648;
        }

        /** How many digits stand behind a STATEMENT's letter; 0 if it is no such letter. */
        static int digitsBehind(int letter) {
            switch (letter) {
                case 'c': return 4;
                case 'e': return 4;
                case 's': return 2;
                case 'd': return 1;
                case 'h': return 2;
                case 't': return 2;
                default: return 0;
            }
        }

        /** The place of a FAULT of kind 1, or NONE. */
        int firstBadByte() {
            boolean between = true;
            int digits = 0;
            for (int at = 0; at < size; at++) {
                int sign = elements[at];
                if (between) {
                    digits = digitsBehind(sign);
                    between = false;
                    if (digits == 0) {
                        return at;
                    }
                } else if (digits > 0) {
                    digits--;
                    if (!within(sign, '0', '9')) {
                        return at;
                    }
                } else {
                    between = true;
                    if (sign != ';') {
                        return at;
                    }
                }
            }
            return between && size > 0 ? NONE : size;
        }

        int number(int place, int digits) {
            int value = 0;
            for (int i = place; i < place + digits && within(i, 0, ROW_ROOM - 1); i++) {
                value = 10 * value + elements[i] - '0';
            }
            return value;
        }
    }

    /** A KIND's numbers are made from those of the KIND that it is under, and never change. */
    private static class Sheep {
        final int kind;
        final int figure;
        int weight;
        int sticks;
        int flies;
        int price;
        int costs;

        Sheep(int kind, int figure) {
            this.kind = kind;
            this.figure = figure;
            weight = 6 + figure;
            sticks = 1 + figure / 3;
            flies = 4;
            price = 5;
            costs = 3;
        }

        /** Throws its FAILURE, if it has one. */
        void fail() {
            if (figure != 0) {
                throw new IllegalStateException("a failure");
            }
        }
    }

    private static class ThinSheep extends Sheep {
        ThinSheep(int kind, int figure) {
            super(kind, figure);
            weight -= 3;
            sticks -= 1;
            flies += 2;
            price -= 2;
            costs -= 1;
        }
    }

    private static class FatSheep extends Sheep {
        FatSheep(int kind, int figure) {
            super(kind, figure);
            weight += 4;
            sticks += 2;
            flies -= 1;
            price += figure;
            costs += figure;
        }

        void fail() {
            if (figure != 0) {
                throw new IllegalArgumentException("a fat one's failure");
            }
        }
    }

    private static final class TiedSheep extends FatSheep {
        TiedSheep(int kind, int figure) {
            super(kind, figure);
            weight += 8;
            price += 20;
            costs *= 2;
        }

        void fail() {
            if (figure != 0) {
                throw new UnsupportedOperationException("a tied one's failure");
            }
        }
    }

    private static final class PaintedSheep extends ThinSheep {
        PaintedSheep(int kind, int figure) {
            super(kind, figure);
            sticks += 1;
            price += 1;
            costs += 4;
        }
    }

    private static final class DoubleSheep extends FatSheep {
        DoubleSheep(int kind, int figure) {
            super(kind, figure);
            weight *= 2;
            sticks *= 2;
            flies -= 1;
            price *= 2;
            costs += 1;
        }
    }

    private static final class StolenSheep extends ThinSheep {
        StolenSheep(int kind, int figure) {
            super(kind, figure);
            flies = 7;
            price = 0;
            costs /= 2;
        }
    }

    private static final class Bone extends Sheep {
        Bone(int kind, int figure) {
            super(kind, figure);
            weight = 2;
            sticks = 0;
            flies += 3;
            price -= 4;
            costs -= 2;
        }

        void fail() {
            // Bones have no failure.
        }
    }
}
