/**
 * A choir of walls and of the stones on them that drink rain, year by year.
 * The document's promises are kept method by method below; the numbers I to VIII are its terms.
 */
public final class DrinkingStones {

    public static final int NONE = -1;

    private static final int NO_SUCH = -2;
    private static final int SIZE_BELOW_ZERO = -3;
    private static final int FAULTY = -4;
    private static final int NOT_NOW = -5;
    private static final int NOTHING = -6;
    private static final int BEYOND = -7;
    private static final int UNLIKE = -8;
    private static final int NO_GAIN = -1000;
    private static final int NO_SHARE = -1000000;

    private static final int MOST_BYTES = 600;
    private static final int BYTES_A_FEED = 20;
    private static final int MOST_YEARS = 12;
    private static final int MOST_WALLS = 3;
    private static final int MOST_STONES = 6;
    private static final int MOST_RAINS = 8;
    private static final int MOST_TAPS = 6;
    private static final int MOST_ACTS = 30;
    private static final int MOST_ROOM = 60;
    private static final int MOST_WIDE = 4;
    private static final int MOST_BEARS = 300;
    private static final int MOST_GIVES = 60;
    private static final int MOST_IN_RAIN = 20;
    private static final int MOST_IN_TAP = 60;
    private static final int LAST_SORT = 5;
    private static final int LAST_LAW = 3;
    private static final int TENTHS = 10;
    private static final int SLOTS = 4;
    private static final int LAST_WIDTH = 3;
    private static final int MOST_NUMBERS = 60;
    private static final int IMAGES = 3;
    private static final int MOST_SEED = 2000000000;
    private static final int MOST_DRAWN = 20;

    private static final int BY_NEXT_ON_WALL = 1;
    private static final int BY_NEXT_STONE = 2;
    private static final int BY_PRESSING = 3;

    private static final int FOR_BUNG = 7;
    private static final int FOR_FALL = 10;

    private static final int RAIN = 0;
    private static final int TAP = 1;

    private final Tape tape = new Tape();
    private final World draft = new World();
    private final World world = new World();
    private final World[] images = new World[IMAGES];
    private final Row[] slots = new Row[SLOTS];
    private final Flow now = new Flow(world);
    private final Flow whatIf = new Flow(world);
    private final Guess guess = new Guess();
    private final Outlook outlook = new Outlook();
    private final int[] worths = new int[1 << MOST_STONES];
    private boolean nowFresh = false;
    private boolean worthsFresh = false;

    public DrinkingStones() {
    }

    // ---- the tape and the choir ----

    public int feed(int a, int b, int c, int d, int e) {
        if (tape.size + BYTES_A_FEED > MOST_BYTES) {
            return NONE;
        }
        tape.add(a);
        tape.add(b);
        tape.add(c);
        tape.add(d);
        tape.add(e);
        return tape.size;
    }

    public int end(int n) {
        if (n < 0 || n > tape.size) {
            return NONE;
        }
        tape.size = n;
        return n;
    }

    public int choir() {
        boolean good = tape.readInto(draft);
        tape.size = 0;
        if (!good) {
            return FAULTY;
        }
        world.takeOver(draft);
        forget();
        return world.lines;
    }

    public int fault(int what) {
        if (what == 0) {
            return tape.fault;
        }
        return what == 1 ? tape.place : NONE;
    }

    // ---- what was told ----

    public int wall(int wall, int what) {
        if (!isWall(wall) || !isWithin(what, 0, 1)) {
            return NO_SUCH;
        }
        return what == 0 ? world.bears[wall] : world.gives[wall];
    }

    public int stone(int stone, int what) {
        if (!isStone(stone) || !isWithin(what, 0, 2)) {
            return NO_SUCH;
        }
        if (what == 0) {
            return world.room[stone];
        }
        return what == 1 ? world.wide[stone] : world.on[stone];
    }

    public int rain(int rain, int what) {
        if (!isWithin(rain, 0, world.rainsTold.size - 1) || !isWithin(what, 0, 2)) {
            return NO_SUCH;
        }
        if (what == 0) {
            return world.rainsTold.much[rain];
        }
        return what == 1 ? world.rainsTold.of[rain] : world.rainsTold.year[rain];
    }

    public int stones(int wall) {
        if (!isWall(wall)) {
            return NO_SUCH;
        }
        int bits = 0;
        for (int s = 0; s < world.stoneCount; s++) {
            if (world.on[s] == wall) {
                bits |= 1 << s;
            }
        }
        return bits;
    }

    // ---- one stone in one year ----

    public int has(int stone, int year) {
        return isStoneInYear(stone, year) ? asNow().held[cell(stone, year)] : NO_SUCH;
    }

    public int layers(int stone, int year) {
        return isStoneInYear(stone, year) ? asNow().depth[cell(stone, year)] : NO_SUCH;
    }

    public int layer(int stone, int year, int i, int what) {
        if (!isStoneInYear(stone, year) || !isWithin(what, 0, 1)) {
            return NO_SUCH;
        }
        Flow flow = asNow();
        int cell = cell(stone, year);
        if (!isWithin(i, 0, flow.depth[cell] - 1)) {
            return NONE;
        }
        return what == 0 ? flow.sortAt[cell * MOST_ROOM + i] : flow.muchAt[cell * MOST_ROOM + i];
    }

    public int sort(int stone, int year, int sort) {
        if (!isStoneInYear(stone, year) || !isSort(sort)) {
            return NO_SUCH;
        }
        return asNow().muchOfSort(cell(stone, year), sort);
    }

    public int top(int stone, int year) {
        if (!isStoneInYear(stone, year)) {
            return NO_SUCH;
        }
        Flow flow = asNow();
        int cell = cell(stone, year);
        int depth = flow.depth[cell];
        return depth == 0 ? 0 : flow.sortAt[cell * MOST_ROOM + depth - 1];
    }

    public int under(int stone, int year) {
        if (!isStoneInYear(stone, year)) {
            return NO_SUCH;
        }
        Flow flow = asNow();
        int cell = cell(stone, year);
        return flow.depth[cell] == 0 ? 0 : flow.sortAt[cell * MOST_ROOM];
    }

    public int left(int stone, int year) {
        if (!isStoneInYear(stone, year)) {
            return NO_SUCH;
        }
        return world.room[stone] - asNow().held[cell(stone, year)];
    }

    public int thick(int stone, int year) {
        return isStoneInYear(stone, year) ? asNow().thickest(cell(stone, year)) : NO_SUCH;
    }

    // ---- all stones together ----

    public int wettest() {
        if (!isTold()) {
            return NO_SUCH;
        }
        Flow flow = asNow();
        int best = 0;
        int bestGain = flow.total(1) - flow.total(0);
        for (int y = 1; y < world.years; y++) {
            int gain = flow.total(y + 1) - flow.total(y);
            if (gain > bestGain) {
                best = y;
                bestGain = gain;
            }
        }
        return best;
    }

    public int ruin() {
        if (!isTold()) {
            return NO_SUCH;
        }
        Flow flow = asNow();
        for (int y = 0; y <= world.years; y++) {
            if (flow.up[y] != world.allWalls()) {
                return y;
            }
        }
        return NONE;
    }

    public int dry(int year) {
        if (!isYear(year)) {
            return NO_SUCH;
        }
        Flow flow = asNow();
        int bits = 0;
        for (int s = 0; s < world.stoneCount; s++) {
            if (flow.held[cell(s, year)] == 0) {
                bits |= 1 << s;
            }
        }
        return bits;
    }

    public int sorted(int sort, int year) {
        if (!isSort(sort) || !isYear(year)) {
            return NO_SUCH;
        }
        Flow flow = asNow();
        int sum = 0;
        for (int s = 0; s < world.stoneCount; s++) {
            sum += flow.muchOfSort(cell(s, year), sort);
        }
        return sum;
    }

    public int gone() {
        if (!isTold()) {
            return NO_SUCH;
        }
        Flow flow = asNow();
        int sum = 0;
        for (int y = 0; y < world.years; y++) {
            sum += flow.spilt[y];
        }
        return sum;
    }

    public int spread(int year) {
        if (!isYear(year)) {
            return NO_SUCH;
        }
        Flow flow = asNow();
        int most = 0;
        int fewest = world.stoneCount == 0 ? 0 : MOST_ROOM;
        for (int s = 0; s < world.stoneCount; s++) {
            int held = flow.held[cell(s, year)];
            most = Math.max(most, held);
            fewest = Math.min(fewest, held);
        }
        return most - fewest;
    }

    public int full(int year) {
        if (!isYear(year)) {
            return NO_SUCH;
        }
        Flow flow = asNow();
        int bits = 0;
        for (int s = 0; s < world.stoneCount; s++) {
            if (flow.held[cell(s, year)] == world.room[s]) {
                bits |= 1 << s;
            }
        }
        return bits;
    }

    public int bead(int stone) {
        if (!isStone(stone)) {
            return NO_SUCH;
        }
        Flow flow = asNow();
        for (int y = 0; y <= world.years; y++) {
            if (flow.held[cell(stone, y)] == world.room[stone]) {
                return y;
            }
        }
        return NONE;
    }

    public int most(int stone) {
        if (!isStone(stone)) {
            return NO_SUCH;
        }
        Flow flow = asNow();
        int most = 0;
        for (int y = 0; y <= world.years; y++) {
            most = Math.max(most, flow.held[cell(stone, y)]);
        }
        return most;
    }

    public int all(int year) {
        return isYear(year) ? asNow().total(year) : NO_SUCH;
    }

    public int deepest(int year) {
        if (!isYear(year)) {
            return NO_SUCH;
        }
        Flow flow = asNow();
        int best = NONE;
        int bestHeld = -1;
        for (int s = 0; s < world.stoneCount; s++) {
            int held = flow.held[cell(s, year)];
            if (held > bestHeld) {
                best = s;
                bestHeld = held;
            }
        }
        return best;
    }

    public int sorts(int year) {
        if (!isYear(year)) {
            return NO_SUCH;
        }
        Flow flow = asNow();
        int bits = 0;
        for (int s = 0; s < world.stoneCount; s++) {
            bits |= flow.sortBits(cell(s, year));
        }
        return bits;
    }

    // ---- walls ----

    public int load(int wall, int year) {
        return isWall(wall) && isYear(year) ? asNow().loadOf(wall, year) : NO_SUCH;
    }

    public int sunk(int wall, int year) {
        return isWall(wall) && isYear(year) ? asNow().sunkBy[year * MOST_WALLS + wall] : NO_SUCH;
    }

    public int stands(int year) {
        return isYear(year) ? asNow().up[year] : NO_SUCH;
    }

    public int falls(int wall) {
        if (!isWall(wall)) {
            return NO_SUCH;
        }
        Flow flow = asNow();
        for (int y = 0; y <= world.years; y++) {
            if (!hasBit(flow.up[y], wall)) {
                return y;
            }
        }
        return NONE;
    }

    public int lowest() {
        if (!isTold()) {
            return NO_SUCH;
        }
        Flow flow = asNow();
        int best = NONE;
        int bestSunk = 0;
        for (int w = 0; w < world.wallCount; w++) {
            int sunk = flow.sunkBy[world.years * MOST_WALLS + w];
            if (sunk > bestSunk) {
                best = w;
                bestSunk = sunk;
            }
        }
        return best;
    }

    // ---- what went where ----

    public int heard(int sort) {
        return isSort(sort) && isTold() ? asNow().heardOfSort[sort] : NO_SUCH;
    }

    public int tapped(int year) {
        return isAheadOfLast(year) ? asNow().heardIn[year] : NO_SUCH;
    }

    public int tells(int stone) {
        return isStone(stone) ? asNow().heardFrom[stone] : NO_SUCH;
    }

    public int lost(int year) {
        return isAheadOfLast(year) ? asNow().spilt[year] : NO_SUCH;
    }

    public int drinks(int stone) {
        return isStone(stone) ? asNow().drunk[stone] : NO_SUCH;
    }

    public int when(int stone, int sort) {
        if (!isStone(stone) || !isSort(sort)) {
            return NO_SUCH;
        }
        Flow flow = asNow();
        for (int y = 0; y <= world.years; y++) {
            if (flow.muchOfSort(cell(stone, y), sort) > 0) {
                return y;
            }
        }
        return NONE;
    }

    public int sinks(int stone) {
        if (!isStone(stone)) {
            return NO_SUCH;
        }
        Flow flow = asNow();
        int years = 0;
        for (int y = 1; y <= world.years; y++) {
            if (flow.held[cell(stone, y)] < flow.held[cell(stone, y - 1)]) {
                years++;
            }
        }
        return years;
    }

    public int alike(int stone, int year) {
        if (!isStoneInYear(stone, year)) {
            return NO_SUCH;
        }
        Flow flow = asNow();
        int many = 0;
        for (int s = 0; s < world.stoneCount; s++) {
            if (flow.holdAlike(cell(stone, year), cell(s, year))) {
                many++;
            }
        }
        return many;
    }

    // ---- what would be otherwise ----

    public int save(int year) {
        if (!isAheadOfLast(year)) {
            return NO_SUCH;
        }
        int set = fewestToLetOut(asNow(), year);
        return set == NONE ? NONE : Integer.bitCount(set);
    }

    public int saves(int year) {
        return isAheadOfLast(year) ? fewestToLetOut(asNow(), year) : NO_SUCH;
    }

    public int latest() {
        if (!isTold()) {
            return NO_SUCH;
        }
        for (int y = world.years - 1; y >= 0; y--) {
            if (fewestToLetOut(asNow(), y) != NONE) {
                return y;
            }
        }
        return NONE;
    }

    public int blame() {
        if (!isTold()) {
            return NO_SUCH;
        }
        int best = NONE;
        int bestStand = Integer.bitCount(asNow().up[world.years]);
        for (int r = 0; r < world.rainsTold.size; r++) {
            Change change = otherwise();
            change.rainsThatCome = ~(1 << r);
            int stand = Integer.bitCount(wallsLeft());
            if (stand > bestStand) {
                best = r;
                bestStand = stand;
            }
        }
        return best;
    }

    public int needed() {
        if (!isTold()) {
            return NO_SUCH;
        }
        int best = NONE;
        int fewest = Integer.bitCount(asNow().up[world.years]);
        for (int t = 0; t < world.tapsTold.size; t++) {
            Change change = otherwise();
            change.tapsThatCome = ~(1 << t);
            int stand = Integer.bitCount(wallsLeft());
            if (stand < fewest) {
                best = t;
                fewest = stand;
            }
        }
        return best;
    }

    /** Halves: until a wall falls all goes alike whatever it bears, so one that bears more never falls sooner. */
    public int needs(int wall) {
        if (!isWall(wall)) {
            return NO_SUCH;
        }
        int low = 0;
        int high = MOST_BEARS + 1;
        for (int i = 0; i < 10 && low < high; i++) {
            int middle = (low + high) / 2;
            Change change = otherwise();
            change.wallOtherwise = wall;
            change.bearsThen = middle;
            if (hasBit(wallsLeft(), wall)) {
                high = middle;
            } else {
                low = middle + 1;
            }
        }
        return low > MOST_BEARS ? NONE : low;
    }

    public int heavy() {
        if (!isTold()) {
            return NO_SUCH;
        }
        int best = NONE;
        int least = asNow().total(world.years);
        for (int s = 0; s < world.stoneCount; s++) {
            Change change = otherwise();
            change.bunged = 1 << s;
            whatIf.run(0, false);
            int total = whatIf.total(world.years);
            if (total < least) {
                best = s;
                least = total;
            }
        }
        return best;
    }

    // ---- by what was seen ----

    public int rooms(int slot, int stone) {
        return guessRooms(slot, stone);
    }

    public int least(int slot, int stone) {
        int many = guessRooms(slot, stone);
        return many < 0 ? many : guess.leastRoom();
    }

    public int greatest(int slot, int stone) {
        int many = guessRooms(slot, stone);
        return many < 0 ? many : guess.greatestRoom();
    }

    public int ask(int slot, int stone) {
        int many = guessRooms(slot, stone);
        return many < 0 ? many : guess.bestYear(world.years);
    }

    public int leaves(int slot, int stone) {
        int many = guessRooms(slot, stone);
        int year = many < 0 ? NONE : guess.bestYear(world.years);
        return year == NONE ? many : guess.worstAt(year);
    }

    public int laws(int slot) {
        int refused = refusalOfRow(slot);
        if (refused < 0) {
            return refused;
        }
        int bits = 0;
        for (int l = 0; l <= LAST_LAW; l++) {
            runByLaw(l);
            if (whatIfIsAsSeen(slot)) {
                bits |= 1 << l;
            }
        }
        return bits;
    }

    public int by(int law) {
        if (!isWithin(law, 0, LAST_LAW) || !isTold()) {
            return NO_SUCH;
        }
        runByLaw(law);
        return whatIf.total(world.years);
    }

    public int law() {
        if (!isTold()) {
            return NO_SUCH;
        }
        int best = 0;
        int bestStand = -1;
        for (int l = 0; l <= LAST_LAW; l++) {
            runByLaw(l);
            int stand = Integer.bitCount(whatIf.up[world.years]);
            if (stand > bestStand) {
                best = l;
                bestStand = stand;
            }
        }
        return best;
    }

    // ---- shares, and two that are bunged ----

    public int worth(int set) {
        if (!isTold() || !isWithin(set, 0, world.allStones())) {
            return NO_SUCH;
        }
        return worthsFresh ? worths[set] : worthAlone(set);
    }

    public int share(int stone, int what) {
        if (!isStone(stone) || !isWithin(what, 0, 1)) {
            return NO_SHARE;
        }
        weighSets();
        long above = 0;
        for (int set = 0; set <= world.allStones(); set++) {
            if (!hasBit(set, stone)) {
                long orders = ordersOf(Integer.bitCount(set)) * ordersOf(world.stoneCount - 1 - Integer.bitCount(set));
                above += orders * (worths[set | (1 << stone)] - worths[set]);
            }
        }
        return (int) inLowestTerms(above, ordersOf(world.stoneCount), what);
    }

    public int rests(int stone, int other) {
        if (!isStone(stone) || !isStone(other) || stone == other) {
            return NO_SUCH;
        }
        int bits = 0;
        for (int x = 0; x <= 1; x++) {
            for (int y = 0; y <= 1; y++) {
                boolean firstRests = gain(stone, other, x, y) >= gain(stone, other, 1 - x, y);
                boolean otherRests = gain(other, stone, y, x) >= gain(other, stone, 1 - y, x);
                if (firstRests && otherRests) {
                    bits |= 1 << (x + 2 * y);
                }
            }
        }
        return bits;
    }

    public int gets(int stone, int other, int x, int y) {
        boolean two = isStone(stone) && isStone(other) && stone != other;
        if (!two || !isWithin(x, 0, 1) || !isWithin(y, 0, 1)) {
            return NO_GAIN;
        }
        return gain(stone, other, x, y);
    }

    // ---- chance ----

    public long chance(int wall, int what) {
        if (!isWall(wall) || !isWithin(what, 0, 1)) {
            return NO_SUCH;
        }
        weighChances();
        return inLowestTerms(outlook.standing[wall], outlook.whole, what);
    }

    public long mean(int what) {
        if (!isTold() || !isWithin(what, 0, 1)) {
            return NO_SUCH;
        }
        weighChances();
        return inLowestTerms(outlook.measures, outlook.whole, what);
    }

    // ---- acts ----

    public int rains(int n, int sort, int year) {
        if (!isWithin(n, 1, MOST_IN_RAIN) || !isSort(sort) || !isAheadOfLast(year)) {
            return NO_SUCH;
        }
        if (world.acts.isFull()) {
            return NOT_NOW;
        }
        world.acts.put(RAIN, sort, n, year);
        forget();
        return asNow().total(world.years);
    }

    public int taps(int stone, int n, int year) {
        if (!isStone(stone) || !isWithin(n, 1, MOST_IN_TAP) || !isAheadOfLast(year)) {
            return NO_SUCH;
        }
        if (world.acts.isFull()) {
            return NOT_NOW;
        }
        world.acts.put(TAP, stone, n, year);
        forget();
        return asNow().heardIn[year];
    }

    public int undo() {
        if (!isTold()) {
            return NO_SUCH;
        }
        if (world.acts.size == 0) {
            return NOT_NOW;
        }
        world.acts.size--;
        forget();
        return world.acts.size;
    }

    public int anew() {
        if (!isTold()) {
            return NO_SUCH;
        }
        int were = world.acts.size;
        world.acts.size = 0;
        forget();
        return were;
    }

    // ---- centuries drawn ----

    public int drawn(int seed, int what) {
        if (!isTold() || !isWithin(seed, 0, MOST_SEED) || !isWithin(what, 0, 1)) {
            return NO_SUCH;
        }
        return what == 0 ? rainsDrawn(seed) : wallsLeftByDraw(seed);
    }

    public int luck(int seed, int n, int wall) {
        if (!isWithin(seed, 0, MOST_SEED) || !isWithin(n, 1, MOST_DRAWN) || !isWall(wall)) {
            return NO_SUCH;
        }
        int many = 0;
        for (int i = 0; i < n; i++) {
            if (hasBit(wallsLeftByDraw(seed + i), wall)) {
                many++;
            }
        }
        return many;
    }

    public int rate(int wall, int n) {
        if (!isWall(wall) || !isWithin(n, 0, MOST_BEARS)) {
            return NO_SUCH;
        }
        if (world.acts.size > 0) {
            return NOT_NOW;
        }
        int was = world.bears[wall];
        world.bears[wall] = n;
        forget();
        return was;
    }

    public int count(int what) {
        switch (what) {
            case 0: return world.years;
            case 1: return world.lawTold;
            case 2: return world.odds;
            case 3: return world.wallCount;
            case 4: return world.stoneCount;
            case 5: return world.rainsTold.size;
            case 6: return world.tapsTold.size;
            case 7: return world.acts.size;
            case 8: return world.lines;
            case 9: return tape.size;
            case 10: return slotsWithRow();
            default: return NONE;
        }
    }

    // ---- images ----

    public int image(int k) {
        if (!isWithin(k, 0, IMAGES - 1)) {
            return NO_SUCH;
        }
        World kept = images[k];
        if (kept == null) {
            kept = new World();
            images[k] = kept;
        }
        kept.takeOver(world);
        return 0;
    }

    public int back(int k) {
        if (!isWithin(k, 0, IMAGES - 1)) {
            return NO_SUCH;
        }
        World kept = images[k];
        if (kept == null) {
            return NOTHING;
        }
        world.takeOver(kept);
        forget();
        return 0;
    }

    // ---- slots ----

    public int row(int slot, int width, int n) {
        if (!isSlot(slot) || !isWithin(width, 0, LAST_WIDTH) || n > MOST_NUMBERS) {
            return NO_SUCH;
        }
        if (n < 0) {
            return SIZE_BELOW_ZERO;
        }
        Row row = slots[slot];
        if (row == null) {
            row = new Row();
            slots[slot] = row;
        }
        row.begin(width, n);
        return 0;
    }

    public int write(int slot, int i, long v) {
        if (!isSlot(slot)) {
            return NO_SUCH;
        }
        Row row = slots[slot];
        if (row == null) {
            return NOTHING;
        }
        if (!isWithin(i, 0, row.size - 1)) {
            return BEYOND;
        }
        row.numbers[i] = row.cut(v);
        return 0;
    }

    public int paste(int slot, int i, int to, int k, int n) {
        if (!isSlot(slot) || !isSlot(to)) {
            return NO_SUCH;
        }
        Row from = slots[slot];
        Row into = slots[to];
        if (from == null || into == null) {
            return NOTHING;
        }
        if (from.width != into.width) {
            return UNLIKE;
        }
        if (!from.holds(i, n) || !into.holds(k, n)) {
            return BEYOND;
        }
        System.arraycopy(from.numbers, i, into.numbers, k, n);
        return 0;
    }

    // ---- what there is ----

    private static boolean isWithin(int n, int low, int high) {
        return n >= low && n <= high;
    }

    private static boolean hasBit(int bits, int i) {
        return ((bits >> i) & 1) == 1;
    }

    private static int cell(int stone, int year) {
        return year * MOST_STONES + stone;
    }

    private static boolean isSort(int sort) {
        return isWithin(sort, 1, LAST_SORT);
    }

    private static boolean isSlot(int slot) {
        return isWithin(slot, 0, SLOTS - 1);
    }

    private boolean isTold() {
        return world.lines > 0;
    }

    private boolean isWall(int wall) {
        return isWithin(wall, 0, world.wallCount - 1);
    }

    private boolean isStone(int stone) {
        return isWithin(stone, 0, world.stoneCount - 1);
    }

    private boolean isYear(int year) {
        return isTold() && isWithin(year, 0, world.years);
    }

    private boolean isAheadOfLast(int year) {
        return isTold() && isWithin(year, 0, world.years - 1);
    }

    private boolean isStoneInYear(int stone, int year) {
        return isStone(stone) && isYear(year);
    }

    private int slotsWithRow() {
        int many = 0;
        for (int i = 0; i < SLOTS; i++) {
            if (slots[i] != null) {
                many++;
            }
        }
        return many;
    }

    // ---- how it goes now, and otherwise ----

    /** What was worked out holds no longer. */
    private void forget() {
        nowFresh = false;
        worthsFresh = false;
        outlook.fresh = false;
    }

    private Flow asNow() {
        if (!nowFresh) {
            now.run(0, false);
            nowFresh = true;
        }
        return now;
    }

    /** What is otherwise in the flow of what would be: nothing yet. */
    private Change otherwise() {
        whatIf.change.clear();
        return whatIf.change;
    }

    private int wallsLeft() {
        whatIf.run(0, false);
        return whatIf.up[world.years];
    }

    private void runByLaw(int law) {
        otherwise().lawThen = law;
        whatIf.run(0, false);
    }

    /** The least of the smallest sets by which all walls stand, or NONE. */
    private int fewestToLetOut(Flow flow, int year) {
        if (flow.up[year] != world.allWalls()) {
            return NONE;
        }
        otherwise();
        int best = NONE;
        int fewest = MOST_STONES + 1;
        for (int set = 0; set <= world.allStones(); set++) {
            if (Integer.bitCount(set) < fewest) {
                whatIf.beginAt(year, flow, set);
                if (whatIf.run(year, true)) {
                    best = set;
                    fewest = Integer.bitCount(set);
                }
            }
        }
        return best;
    }

    private int worthAlone(int set) {
        otherwise().drinkAlone = set;
        whatIf.run(0, false);
        return whatIf.total(world.years);
    }

    private void weighSets() {
        if (worthsFresh) {
            return;
        }
        for (int set = 0; set <= world.allStones(); set++) {
            worths[set] = worthAlone(set);
        }
        worthsFresh = true;
    }

    private int gain(int stone, int second, int x, int y) {
        otherwise().bunged = (x << stone) | (y << second);
        whatIf.run(0, false);
        int last = world.years;
        boolean fell = !hasBit(whatIf.up[last], world.on[stone]);
        return whatIf.held[cell(stone, last)] + x * FOR_BUNG - (fell ? FOR_FALL : 0);
    }

    private static long ordersOf(int n) {
        long orders = 1;
        for (int i = 2; i <= n; i++) {
            orders *= i;
        }
        return orders;
    }

    private static long inLowestTerms(long above, long below, int what) {
        long a = Math.abs(above);
        long b = below;
        for (int i = 0; i < 100 && b != 0; i++) {
            long rest = a % b;
            a = b;
            b = rest;
        }
        if (a == 0) {
            return what;
        }
        return (what == 0 ? above : below) / a;
    }

    // ---- seen ----

    private int refusalOfRow(int slot) {
        if (!isSlot(slot) || !isTold()) {
            return NO_SUCH;
        }
        Row row = slots[slot];
        if (row == null) {
            return NOTHING;
        }
        boolean good = row.size % 3 == 0;
        for (int i = 0; i + 2 < row.size; i += 3) {
            good = good && isSighting(row.numbers[i], row.numbers[i + 1], row.numbers[i + 2]);
        }
        return good ? 0 : NO_SUCH;
    }

    private boolean isSighting(long stone, long year, long measures) {
        return stone >= 0 && stone < world.stoneCount
                && year >= 0 && year <= world.years
                && measures >= 0 && measures <= MOST_ROOM;
    }

    /** Asked of rows alone that refusalOfRow does not refuse. */
    private boolean whatIfIsAsSeen(int slot) {
        Row row = slots[slot];
        if (row == null) {
            return false;
        }
        for (int i = 0; i + 2 < row.size; i += 3) {
            int cell = cell((int) row.numbers[i], (int) row.numbers[i + 1]);
            if (whatIf.held[cell] != row.numbers[i + 2]) {
                return false;
            }
        }
        return true;
    }

    /** Keeps in guess the rooms that a stone can have had: how many, or why that can't be asked (below 0). */
    private int guessRooms(int slot, int stone) {
        int refused = isStone(stone) ? refusalOfRow(slot) : NO_SUCH;
        if (refused < 0) {
            return refused;
        }
        guess.clear();
        for (int room = 1; room <= MOST_ROOM; room++) {
            Change change = otherwise();
            change.stoneOtherwise = stone;
            change.roomThen = room;
            whatIf.run(0, false);
            if (whatIfIsAsSeen(slot)) {
                guess.keep(room, stone, whatIf);
            }
        }
        return guess.size;
    }

    // ---- chance and draws ----

    private void weighChances() {
        if (outlook.fresh) {
            return;
        }
        outlook.begin();
        int inTime = world.rainsInTime();
        for (int i = 0; i < Integer.bitCount(inTime); i++) {
            outlook.whole *= TENTHS;
        }
        for (int set = 0; set < 1 << world.rainsTold.size; set++) {
            long weight = (set & ~inTime) == 0 ? weightOf(set, inTime) : 0;
            if (weight > 0) {
                otherwise().rainsThatCome = set;
                whatIf.run(0, false);
                outlook.add(weight, whatIf.up[world.years], whatIf.total(world.years));
            }
        }
        outlook.fresh = true;
    }

    /** Of all ways in ten to the power of the rains in time, those in which just a set of them comes. */
    private long weightOf(int set, int inTime) {
        long weight = 1;
        for (int r = 0; r < MOST_RAINS; r++) {
            if (hasBit(inTime, r)) {
                weight *= hasBit(set, r) ? world.odds : TENTHS - world.odds;
            }
        }
        return weight;
    }

    private int rainsDrawn(int seed) {
        long x = seed;
        int bits = 0;
        for (int r = 0; r < world.rainsTold.size; r++) {
            x = (1103515245L * x + 12345L) % 2147483648L;
            if (x / 65536 % TENTHS < world.odds) {
                bits |= 1 << r;
            }
        }
        return bits;
    }

    private int wallsLeftByDraw(int seed) {
        otherwise().rainsThatCome = rainsDrawn(seed);
        return wallsLeft();
    }

    /** Rains or taps, in their order. */
    private static final class Events {
        int size = 0;
        final int[] kind;
        final int[] of;
        final int[] much;
        final int[] year;

        Events(int most) {
            kind = new int[Math.max(0, most)];
            of = new int[Math.max(0, most)];
            much = new int[Math.max(0, most)];
            year = new int[Math.max(0, most)];
        }

        boolean isFull() {
            return size >= kind.length;
        }

        void put(int kindOfIt, int ofWhat, int howMuch, int inYear) {
            if (isFull()) {
                return;
            }
            kind[size] = kindOfIt;
            of[size] = ofWhat;
            much[size] = howMuch;
            year[size] = inYear;
            size++;
        }

        void takeOver(Events from) {
            size = 0;
            for (int i = 0; i < from.size; i++) {
                put(from.kind[i], from.of[i], from.much[i], from.year[i]);
            }
        }
    }

    /** A choir as told, and the acts since; without lines there is none. */
    private static final class World {
        int lines = 0;
        int years = 0;
        int lawTold = 0;
        int odds = 0;
        int wallCount = 0;
        int stoneCount = 0;
        final int[] bears = new int[MOST_WALLS];
        final int[] gives = new int[MOST_WALLS];
        final int[] room = new int[MOST_STONES];
        final int[] wide = new int[MOST_STONES];
        final int[] on = new int[MOST_STONES];
        final Events rainsTold = new Events(MOST_RAINS);
        final Events tapsTold = new Events(MOST_TAPS);
        final Events acts = new Events(MOST_ACTS);

        void clear() {
            lines = 0;
            years = 0;
            lawTold = 0;
            odds = 0;
            wallCount = 0;
            stoneCount = 0;
            rainsTold.size = 0;
            tapsTold.size = 0;
            acts.size = 0;
        }

        void takeOver(World from) {
            lines = from.lines;
            years = from.years;
            lawTold = from.lawTold;
            odds = from.odds;
            wallCount = from.wallCount;
            stoneCount = from.stoneCount;
            System.arraycopy(from.bears, 0, bears, 0, MOST_WALLS);
            System.arraycopy(from.gives, 0, gives, 0, MOST_WALLS);
            System.arraycopy(from.room, 0, room, 0, MOST_STONES);
            System.arraycopy(from.wide, 0, wide, 0, MOST_STONES);
            System.arraycopy(from.on, 0, on, 0, MOST_STONES);
            rainsTold.takeOver(from.rainsTold);
            tapsTold.takeOver(from.tapsTold);
            acts.takeOver(from.acts);
        }

        int allWalls() {
            return (1 << wallCount) - 1;
        }

        int allStones() {
            return (1 << stoneCount) - 1;
        }

        /** Rains told of a year ahead of the last, as bits. */
        int rainsInTime() {
            int bits = 0;
            for (int r = 0; r < rainsTold.size; r++) {
                if (rainsTold.year[r] < years) {
                    bits |= 1 << r;
                }
            }
            return bits;
        }

        void addWall(int bearsIt, int givesIt) {
            if (wallCount < MOST_WALLS) {
                bears[wallCount] = bearsIt;
                gives[wallCount] = givesIt;
                wallCount++;
            }
        }

        void addStone(int roomOfIt, int wideIt, int onIt) {
            if (stoneCount < MOST_STONES) {
                room[stoneCount] = roomOfIt;
                wide[stoneCount] = wideIt;
                on[stoneCount] = onIt;
                stoneCount++;
            }
        }
    }

    /** The bytes that came, and how a choir is read from them; a fault ends the reading. */
    private static final class Tape {
        private static final int FAULT_TOKEN = 1;
        private static final int FAULT_NUMBER = 2;
        private static final int FAULT_MANY = 3;
        private static final int BLANK = 0;
        private static final int LETTER = 1;
        private static final int DIGIT = 2;
        private static final int SIGN = 3;
        private static final int STRANGE = 4;
        private static final int ABOVE_ALL_BOUNDS = 1000000;

        int size = 0;
        int fault = 0;
        int place = NONE;
        private final byte[] bytes = new byte[MOST_BYTES];
        private int from = 0;
        private int upTo = 0;

        void add(int four) {
            for (int shift = 24; shift >= 0 && size < MOST_BYTES; shift -= 8) {
                bytes[size] = (byte) (four >> shift);
                size++;
            }
        }

        boolean readInto(World draft) {
            fault = 0;
            place = NONE;
            from = 0;
            upTo = 0;
            draft.clear();
            for (int i = 0; i <= size && fault == 0 && nextToken(); i++) {
                readLine(draft);
            }
            return fault == 0;
        }

        private void readLine(World draft) {
            boolean first = draft.lines == 0;
            if (isWord("choir") != first) {
                fail(FAULT_TOKEN);
            } else if (first) {
                readChoir(draft);
            } else if (isWord("wall")) {
                readWall(draft);
            } else if (isWord("stone")) {
                readStone(draft);
            } else if (isWord("rain")) {
                readRain(draft);
            } else if (isWord("tap")) {
                readTap(draft);
            } else {
                fail(FAULT_TOKEN);
            }
            draft.lines++;
        }

        private void readChoir(World draft) {
            draft.years = numberBehind("years", 1, MOST_YEARS);
            draft.lawTold = numberBehind("law", 0, LAST_LAW);
            draft.odds = numberBehind("odds", 0, TENTHS);
            readSign();
        }

        private void readWall(World draft) {
            failIf(draft.wallCount >= MOST_WALLS);
            int bears = numberBehind("bears", 0, MOST_BEARS);
            int gives = numberBehind("gives", 1, MOST_GIVES);
            readSign();
            draft.addWall(bears, gives);
        }

        private void readStone(World draft) {
            failIf(draft.stoneCount >= MOST_STONES);
            int room = numberBehind("room", 1, MOST_ROOM);
            int wide = numberBehind("wide", 1, MOST_WIDE);
            int on = numberBehind("on", 0, draft.wallCount - 1);
            readSign();
            draft.addStone(room, wide, on);
        }

        private void readRain(World draft) {
            failIf(draft.rainsTold.isFull());
            int much = readNumber(1, MOST_IN_RAIN);
            int sort = numberBehind("of", 1, LAST_SORT);
            int year = numberBehind("at", 0, MOST_YEARS - 1);
            readSign();
            draft.rainsTold.put(RAIN, sort, much, year);
        }

        private void readTap(World draft) {
            failIf(draft.tapsTold.isFull());
            int stone = readNumber(0, draft.stoneCount - 1);
            int much = readNumber(1, MOST_IN_TAP);
            int year = numberBehind("at", 0, MOST_YEARS - 1);
            readSign();
            draft.tapsTold.put(TAP, stone, much, year);
        }

        /** Ahead of a line's other tokens: the place is that of its first word. */
        private void failIf(boolean many) {
            if (many) {
                fail(FAULT_MANY);
            }
        }

        private void fail(int which) {
            fault = which;
            place = from;
        }

        private int numberBehind(String word, int low, int high) {
            if (fault == 0) {
                nextToken();
                if (!isWord(word)) {
                    fail(FAULT_TOKEN);
                }
            }
            return readNumber(low, high);
        }

        private int readNumber(int low, int high) {
            if (fault != 0) {
                return 0;
            }
            nextToken();
            if (kindAt(from) != DIGIT) {
                fail(FAULT_TOKEN);
                return 0;
            }
            int number = 0;
            for (int i = from; i < upTo; i++) {
                number = Math.min(ABOVE_ALL_BOUNDS, number * 10 + bytes[i] - '0');
            }
            if (number < low || number > high) {
                fail(FAULT_NUMBER);
            }
            return number;
        }

        private void readSign() {
            if (fault == 0) {
                nextToken();
                if (kindAt(from) != SIGN) {
                    fail(FAULT_TOKEN);
                }
            }
        }

        /** Goes on to the next token; at the end it is an empty one, and there is none. */
        private boolean nextToken() {
            from = upTo;
            while (from < size && kindAt(from) == BLANK) {
                from++;
            }
            int kind = kindAt(from);
            upTo = Math.min(size, from + 1);
            if (kind == LETTER || kind == DIGIT) {
                while (upTo < size && kindAt(upTo) == kind) {
                    upTo++;
                }
            }
            return from < size;
        }

        private int kindAt(int i) {
            if (i < 0 || i >= size) {
                return STRANGE;
            }
            int b = bytes[i];
            if (b == ' ' || b == '\n') {
                return BLANK;
            }
            if (b >= 'a' && b <= 'z') {
                return LETTER;
            }
            if (b >= '0' && b <= '9') {
                return DIGIT;
            }
            return b == ';' ? SIGN : STRANGE;
        }

        private boolean isWord(String word) {
            if (upTo - from != word.length()) {
                return false;
            }
            for (int i = 0; i < word.length(); i++) {
                if (bytes[from + i] != word.charAt(i)) {
                    return false;
                }
            }
            return true;
        }
    }

    /** What is otherwise than told in a flow. */
    private static final class Change {
        int lawThen = NONE;
        int rainsThatCome = -1;
        int tapsThatCome = -1;
        int bunged = 0;
        int drinkAlone = -1;
        int stoneOtherwise = NONE;
        int roomThen = 0;
        int wallOtherwise = NONE;
        int bearsThen = 0;

        void clear() {
            lawThen = NONE;
            rainsThatCome = -1;
            tapsThatCome = -1;
            bunged = 0;
            drinkAlone = -1;
            stoneOtherwise = NONE;
            roomThen = 0;
            wallOtherwise = NONE;
            bearsThen = 0;
        }
    }

    /**
     * How it goes, year by year. A cell is a stone in a year; its layers lie from
     * cell * MOST_ROOM on, the lowest first: none has less than one measure, so they have room there.
     */
    private static final class Flow {
        final Change change = new Change();
        final int[] sortAt = new int[(MOST_YEARS + 1) * MOST_STONES * MOST_ROOM];
        final int[] muchAt = new int[(MOST_YEARS + 1) * MOST_STONES * MOST_ROOM];
        final int[] depth = new int[(MOST_YEARS + 1) * MOST_STONES];
        final int[] held = new int[(MOST_YEARS + 1) * MOST_STONES];
        final int[] sunkBy = new int[(MOST_YEARS + 1) * MOST_WALLS];
        final int[] up = new int[MOST_YEARS + 1];
        final int[] spilt = new int[MOST_YEARS];
        final int[] heardIn = new int[MOST_YEARS];
        final int[] heardOfSort = new int[LAST_SORT + 1];
        final int[] heardFrom = new int[MOST_STONES];
        final int[] drunk = new int[MOST_STONES];
        private final int[] letOut = new int[LAST_SORT + 1];
        private final int[] room = new int[MOST_STONES];
        private int law = 0;
        private final World world;

        Flow(World of) {
            world = of;
        }

        /**
         * Goes from a year (0, or one that beginAt has laid) to the last: whether all walls stand then.
         * If it is brief it ends where one does not.
         */
        boolean run(int first, boolean brief) {
            settle();
            if (first == 0) {
                begin();
            }
            boolean allStand = up[first] == world.allWalls();
            for (int y = first; y < world.years && (allStand || !brief); y++) {
                copyYear(y);
                rainInto(y);
                tapInto(y);
                loadInto(y);
                allStand = up[y + 1] == world.allWalls();
            }
            return allStand;
        }

        /** The law and rooms of this run. */
        private void settle() {
            law = change.lawThen == NONE ? world.lawTold : change.lawThen;
            for (int s = 0; s < world.stoneCount; s++) {
                room[s] = s == change.stoneOtherwise ? change.roomThen : world.room[s];
                if (hasBit(change.bunged, s)) {
                    room[s] = 0;
                }
            }
        }

        private void begin() {
            for (int s = 0; s < MOST_STONES; s++) {
                depth[s] = 0;
                held[s] = 0;
                heardFrom[s] = 0;
                drunk[s] = 0;
            }
            for (int w = 0; w < MOST_WALLS; w++) {
                sunkBy[w] = 0;
            }
            for (int i = 0; i <= LAST_SORT; i++) {
                heardOfSort[i] = 0;
            }
            up[0] = world.allWalls();
        }

        /** Lays a year as another flow has it, but for a set of stones that let out all. */
        void beginAt(int year, Flow as, int emptied) {
            for (int s = 0; s < world.stoneCount; s++) {
                copyCell(as, cell(s, year), cell(s, year));
                if (hasBit(emptied, s)) {
                    depth[cell(s, year)] = 0;
                    held[cell(s, year)] = 0;
                }
            }
            for (int w = 0; w < MOST_WALLS; w++) {
                sunkBy[year * MOST_WALLS + w] = as.sunkBy[year * MOST_WALLS + w];
            }
            up[year] = as.up[year];
        }

        private void copyYear(int year) {
            for (int s = 0; s < world.stoneCount; s++) {
                copyCell(this, cell(s, year), cell(s, year + 1));
            }
            for (int w = 0; w < MOST_WALLS; w++) {
                sunkBy[(year + 1) * MOST_WALLS + w] = sunkBy[year * MOST_WALLS + w];
            }
            up[year + 1] = up[year];
            spilt[year] = 0;
            heardIn[year] = 0;
        }

        private void copyCell(Flow as, int from, int to) {
            depth[to] = as.depth[from];
            held[to] = as.held[from];
            System.arraycopy(as.sortAt, from * MOST_ROOM, sortAt, to * MOST_ROOM, depth[to]);
            System.arraycopy(as.muchAt, from * MOST_ROOM, muchAt, to * MOST_ROOM, depth[to]);
        }

        private void rainInto(int year) {
            int told = world.rainsTold.size;
            for (int i = 0; i < told + world.acts.size; i++) {
                boolean ofActs = i >= told;
                Events events = ofActs ? world.acts : world.rainsTold;
                int k = ofActs ? i - told : i;
                boolean comes = ofActs ? events.kind[k] == RAIN : hasBit(change.rainsThatCome, k);
                if (comes && events.year[k] == year) {
                    for (int s = 0; s < world.stoneCount; s++) {
                        drink(year, s, events.of[k], events.much[k] * world.wide[s]);
                    }
                }
            }
        }

        /** What a stone has no room for is drunk by those behind it to which it comes on; the rest is lost. */
        private void drink(int year, int first, int sort, int much) {
            int rest = much;
            for (int s = first; s < world.stoneCount && rest > 0; s++) {
                if (s == first || comesOn(first, s)) {
                    if (!hasBit(up[year + 1], world.on[s]) || !hasBit(change.drinkAlone, s)) {
                        break;
                    }
                    rest = pour(year, s, sort, rest);
                }
            }
            spilt[year] += rest;
        }

        private boolean comesOn(int stone, int behind) {
            return law == BY_NEXT_STONE || (law == BY_NEXT_ON_WALL && world.on[stone] == world.on[behind]);
        }

        /** What one stone takes goes in as its top layer: how much is more than that. */
        private int pour(int year, int stone, int sort, int much) {
            int cell = cell(stone, year + 1);
            int most = law == BY_PRESSING ? room[stone] : room[stone] - held[cell];
            int goesIn = much < most ? much : most;
            if (goesIn <= 0) {
                return much;
            }
            int pressedOut = held[cell] + goesIn - room[stone];
            if (pressedOut > 0) {
                spilt[year] += drain(cell, pressedOut);
            }
            lay(cell, sort, goesIn);
            drunk[stone] += goesIn;
            return much - goesIn;
        }

        private void lay(int cell, int sort, int much) {
            int above = cell * MOST_ROOM + depth[cell];
            if (depth[cell] > 0 && sortAt[above - 1] == sort) {
                muchAt[above - 1] += much;
            } else if (depth[cell] < MOST_ROOM) {
                sortAt[above] = sort;
                muchAt[above] = much;
                depth[cell]++;
            }
            held[cell] += much;
        }

        /** Lets out from the lowest up, as far as there is: how much, and by sorts in letOut. */
        private int drain(int cell, int much) {
            for (int i = 0; i <= LAST_SORT; i++) {
                letOut[i] = 0;
            }
            int lowest = cell * MOST_ROOM;
            int rest = much;
            int emptied = 0;
            for (int i = 0; i < depth[cell] && rest > 0; i++) {
                int part = rest < muchAt[lowest + i] ? rest : muchAt[lowest + i];
                muchAt[lowest + i] -= part;
                letOut[sortAt[lowest + i]] += part;
                held[cell] -= part;
                rest -= part;
                if (muchAt[lowest + i] == 0) {
                    emptied++;
                }
            }
            for (int i = emptied; emptied > 0 && i < depth[cell]; i++) {
                sortAt[lowest + i - emptied] = sortAt[lowest + i];
                muchAt[lowest + i - emptied] = muchAt[lowest + i];
            }
            depth[cell] -= emptied;
            return much - rest;
        }

        private void tapInto(int year) {
            int told = world.tapsTold.size;
            for (int i = 0; i < told + world.acts.size; i++) {
                boolean ofActs = i >= told;
                Events events = ofActs ? world.acts : world.tapsTold;
                int k = ofActs ? i - told : i;
                boolean comes = ofActs ? events.kind[k] == TAP : hasBit(change.tapsThatCome, k);
                if (comes && events.year[k] == year) {
                    hear(year, events.of[k], events.much[k]);
                }
            }
        }

        private void hear(int year, int stone, int much) {
            heardIn[year] += drain(cell(stone, year + 1), much);
            for (int sort = 1; sort <= LAST_SORT; sort++) {
                heardOfSort[sort] += letOut[sort];
                if (letOut[sort] > 0) {
                    heardFrom[stone] |= 1 << sort;
                }
            }
        }

        private void loadInto(int year) {
            for (int w = 0; w < world.wallCount; w++) {
                int bears = w == change.wallOtherwise ? change.bearsThen : world.bears[w];
                int more = loadOf(w, year + 1) - bears;
                if (hasBit(up[year + 1], w) && more > 0) {
                    int at = (year + 1) * MOST_WALLS + w;
                    sunkBy[at] += more / 5 + 1;
                    if (sunkBy[at] >= world.gives[w]) {
                        fell(w, year);
                    }
                }
            }
        }

        private void fell(int wall, int year) {
            up[year + 1] &= ~(1 << wall);
            for (int s = 0; s < world.stoneCount; s++) {
                if (world.on[s] == wall) {
                    int cell = cell(s, year + 1);
                    spilt[year] += held[cell];
                    held[cell] = 0;
                    depth[cell] = 0;
                }
            }
        }

        int loadOf(int wall, int year) {
            int sum = 0;
            for (int s = 0; s < world.stoneCount; s++) {
                if (world.on[s] == wall) {
                    sum += held[cell(s, year)];
                }
            }
            return sum;
        }

        int total(int year) {
            int sum = 0;
            for (int s = 0; s < world.stoneCount; s++) {
                sum += held[cell(s, year)];
            }
            return sum;
        }

        int muchOfSort(int cell, int sort) {
            int sum = 0;
            for (int i = 0; i < depth[cell]; i++) {
                if (sortAt[cell * MOST_ROOM + i] == sort) {
                    sum += muchAt[cell * MOST_ROOM + i];
                }
            }
            return sum;
        }

        int thickest(int cell) {
            int most = 0;
            for (int i = 0; i < depth[cell]; i++) {
                most = Math.max(most, muchAt[cell * MOST_ROOM + i]);
            }
            return most;
        }

        int sortBits(int cell) {
            int bits = 0;
            for (int i = 0; i < depth[cell]; i++) {
                bits |= 1 << sortAt[cell * MOST_ROOM + i];
            }
            return bits;
        }

        boolean holdAlike(int cell, int as) {
            boolean same = depth[cell] == depth[as];
            for (int i = 0; same && i < depth[cell]; i++) {
                same = sortAt[cell * MOST_ROOM + i] == sortAt[as * MOST_ROOM + i]
                        && muchAt[cell * MOST_ROOM + i] == muchAt[as * MOST_ROOM + i];
            }
            return same;
        }
    }

    /** The rooms that a stone can have had, and what it would have had in each year by each of them. */
    private static final class Guess {
        int size = 0;
        private final int[] room = new int[MOST_ROOM];
        private final int[] heldBy = new int[MOST_ROOM * (MOST_YEARS + 1)];
        private final int[] tally = new int[MOST_ROOM + 1];

        void clear() {
            size = 0;
        }

        void keep(int roomIs, int stone, Flow flow) {
            if (size < MOST_ROOM) {
                room[size] = roomIs;
                for (int y = 0; y <= MOST_YEARS; y++) {
                    heldBy[size * (MOST_YEARS + 1) + y] = flow.held[cell(stone, y)];
                }
                size++;
            }
        }

        int leastRoom() {
            return size == 0 ? NONE : room[0];
        }

        int greatestRoom() {
            return size == 0 ? NONE : room[size - 1];
        }

        /** How many are left at worst when the measures of a year are known. */
        int worstAt(int year) {
            for (int i = 0; i <= MOST_ROOM; i++) {
                tally[i] = 0;
            }
            int worst = 0;
            for (int i = 0; i < size; i++) {
                int held = heldBy[i * (MOST_YEARS + 1) + year];
                tally[held]++;
                worst = Math.max(worst, tally[held]);
            }
            return worst;
        }

        int bestYear(int lastYear) {
            int best = NONE;
            int fewest = size;
            for (int y = 0; y <= lastYear; y++) {
                int worst = worstAt(y);
                if (worst < fewest) {
                    best = y;
                    fewest = worst;
                }
            }
            return best;
        }
    }

    /** Ways that the rains told can come: how many in all, and in how many each wall stands. */
    private static final class Outlook {
        boolean fresh = false;
        long whole = 1;
        long measures = 0;
        final long[] standing = new long[MOST_WALLS];

        void begin() {
            whole = 1;
            measures = 0;
            for (int w = 0; w < MOST_WALLS; w++) {
                standing[w] = 0;
            }
        }

        void add(long weight, int up, int total) {
            measures += weight * total;
            for (int w = 0; w < MOST_WALLS; w++) {
                if (hasBit(up, w)) {
                    standing[w] += weight;
                }
            }
        }
    }

    /** A slot's numbers. */
    private static final class Row {
        int width = 0;
        int size = 0;
        final long[] numbers = new long[MOST_NUMBERS];

        void begin(int widthIs, int n) {
            width = widthIs;
            size = n;
            for (int i = 0; i < MOST_NUMBERS; i++) {
                numbers[i] = 0;
            }
        }

        long cut(long v) {
            int spare = 64 - (8 << width);
            return (v << spare) >> spare;
        }

        boolean holds(int at, int n) {
            return at >= 0 && n >= 0 && at <= size && n <= size - at;
        }
    }
}
