/**
 * A wood of cells in which poachers and keepers set snares on each other's snares.
 * Sets (of cells, traps, walkers, sides) are bits of an int throughout.
 */
public final class TrapsWatchTraps {
    public static final int UNKNOWN = -1, OUTSIDE = -2, STATE = -3, FULL = -4, NONE = -9;

    private static final int CELLS = 12, ALL_CELLS = 4095, LOW_CELLS = 1023, HIGH_CELLS = 3072;
    private static final int MOST_TRAPS = 6, MOST_WALKERS = 4, MOST_BYTES = 64, MOST_ACTS = 16;
    private static final int SIDES = 2, SLOTS = 2;
    private static final int SNARE = 0, DOUBLE = 2, SHAM = 3, NET = 4, KINDS = 5;
    private static final int MOST_STRAYED = 4, MOST_STRAYED_FOR_ONE_MORE = 3, MOST_ROUNDS = 40;
    private static final long SEED_TIMES = 6364136223846793005L, SEED_AND = 1442695040888963407L;

    /** The neighbours of each cell. */
    private static final int[] AROUND = {18, 37, 74, 132, 289, 594, 1188, 2120, 528, 1312, 2624, 1152};

    private final Text text;
    private final Reader reader;
    private final Plan draft;
    private final Plan plan;
    private final Scene now;
    private final Scene dream;
    private final Acts acts;
    private final Way way;
    private final Straying straying;
    private final Scene[] slots;
    private final boolean[] isKept;
    private long seedNow;

    public TrapsWatchTraps() {
        text = new Text();
        draft = new Plan();
        reader = new Reader(draft);
        plan = new Plan();
        now = new Scene(plan);
        now.begin();
        dream = new Scene(plan);
        acts = new Acts(plan);
        way = new Way(plan);
        straying = new Straying(plan);
        slots = new Scene[SLOTS];
        for (int i = 0; i < SLOTS; i++) {
            slots[i] = new Scene(plan);
        }
        isKept = new boolean[SLOTS];
        seedNow = 0;
    }

    // ---- the wood

    public int write(int n, long v) {
        if (n < 1 || n > 8) {
            return OUTSIDE;
        }
        if (text.length + n > MOST_BYTES) {
            return FULL;
        }
        return text.append(n, v);
    }

    public int wipe() {
        int was = text.length;
        text.length = 0;
        return was;
    }

    public int fault() {
        return reader.read(text, draft);
    }

    public int wood() {
        // The draft takes the first reading, as a text with a fault must leave the wood as it is.
        if (reader.read(text, draft) != NONE) {
            return STATE;
        }
        reader.read(text, plan);
        now.begin();
        acts.forget();
        for (int i = 0; i < SLOTS; i++) {
            isKept[i] = false;
        }
        return 10 * plan.traps + plan.walkers;
    }

    public int trap(int trap, int what) {
        if (!plan.hasTrap(trap)) {
            return UNKNOWN;
        }
        switch (what) {
            case 0:
                return plan.trapCell[trap];
            case 1:
                return plan.trapSide[trap];
            case 2:
                return plan.trapKind[trap];
            case 3:
                return plan.setsOff[trap];
            case 4:
                return now.armed >> trap & 1;
            case 5:
                return now.woken >> trap & 1;
            case 6:
                return (now.knows[0] >> trap & 1) | (now.knows[1] >> trap & 1) << 1;
            default:
                return OUTSIDE;
        }
    }

    public int walker(int walker, int what) {
        if (!plan.hasWalker(walker)) {
            return UNKNOWN;
        }
        switch (what) {
            case 0:
                return now.at[walker];
            case 1:
                return plan.walkerSide[walker];
            case 2:
                return now.isFree(walker) ? 0 : 1;
            case 3:
                return now.by[walker];
            default:
                return OUTSIDE;
        }
    }

    public int near(int cell) {
        return isCell(cell) ? plan.waysFrom(cell) : UNKNOWN;
    }

    public int frost(boolean is) {
        int change = is == now.frozen ? 0 : 1;
        now.frozen = is;
        return change;
    }

    // ---- acts

    public int step(int walker, int cell) {
        if (!plan.hasWalker(walker) || !isCell(cell)) {
            return UNKNOWN;
        }
        if (!now.isFree(walker) || (plan.waysFrom(now.at[walker]) >> cell & 1) == 0) {
            return STATE;
        }
        acts.remember(now);
        return now.walk(walker, cell);
    }

    public int arm(int trap) {
        if (!plan.hasTrap(trap)) {
            return UNKNOWN;
        }
        if ((now.armed >> trap & 1) != 0) {
            return STATE;
        }
        acts.remember(now);
        now.armed |= 1 << trap;
        now.woken &= ~(1 << trap);
        return plan.trapSide[trap];
    }

    public int look(int side, int cell) {
        if (!isCell(cell)) {
            return UNKNOWN;
        }
        if (!isSide(side)) {
            return OUTSIDE;
        }
        int found = unknownFrom(side, cell);
        acts.remember(now);
        now.knows[side] |= found;
        return found;
    }

    public int free(int walker) {
        if (!plan.hasWalker(walker)) {
            return UNKNOWN;
        }
        if (now.isFree(walker)) {
            return STATE;
        }
        acts.remember(now);
        int trap = now.by[walker];
        now.by[walker] = NONE;
        return trap;
    }

    public int undo() {
        if (acts.length == 0) {
            return STATE;
        }
        boolean frost = now.frozen;
        acts.takeBack(now);
        now.frozen = frost;
        return acts.length;
    }

    // ---- wires

    public int sprung(int trap) {
        if (!plan.hasTrap(trap)) {
            return UNKNOWN;
        }
        return plan.spread(1 << trap, now.ready());
    }

    public int rings() {
        int rings = 0;
        for (int t = 0; t < MOST_TRAPS; t++) {
            // Starting behind the trap, not at it: it is in a ring only if a wire leads back.
            int behind = plan.spread(plan.setsOff[t], plan.allTraps());
            rings |= behind & 1 << t;
        }
        return rings;
    }

    public int all() {
        int ready = now.ready();
        int best = ready;
        // From above, so that of sets of one size the least is the last that is taken.
        for (int set = plan.allTraps(); set >= 0; set--) {
            boolean isNoMore = Integer.bitCount(set) <= Integer.bitCount(best);
            if (isNoMore && plan.spread(set, ready) == ready) {
                best = set;
            }
        }
        return best;
    }

    public int first(int set) {
        int traps = plan.allTraps();
        if ((set & ~traps) != 0) {
            return OUTSIDE;
        }
        int first = 0;
        for (int t = 0; t < MOST_TRAPS; t++) {
            if (plan.hasTrap(t) && plan.spread(1 << t, traps & ~plan.shams) == set) {
                first |= 1 << t;
            }
        }
        return first;
    }

    // ---- ways

    public int safe(int walker, int cell) {
        int refusal = refusalOfWay(walker, cell);
        if (refusal != 0) {
            return refusal;
        }
        way.measure(now.at[walker], cell, dangerFor(walker));
        return way.stepsFrom(now.at[walker]);
    }

    public int safeAt(int walker, int cell, int i) {
        int refusal = refusalOfWay(walker, cell);
        if (refusal != 0) {
            return refusal;
        }
        way.measure(now.at[walker], cell, dangerFor(walker));
        return way.cellBehind(now.at[walker], i);
    }

    public int toLook(int side) {
        if (!isSide(side)) {
            return OUTSIDE;
        }
        int best = 0;
        int most = 0;
        for (int c = 0; c < CELLS; c++) {
            int found = Integer.bitCount(unknownFrom(side, c));
            if (found > most) {
                most = found;
                best = c;
            }
        }
        return best;
    }

    // ---- chances

    public int strays(int walker, int n, boolean upper) {
        if (!plan.hasWalker(walker)) {
            return UNKNOWN;
        }
        if (n < 0 || n > MOST_STRAYED) {
            return OUTSIDE;
        }
        if (!now.isFree(walker)) {
            return STATE;
        }
        int whole = Straying.wholeOf(n);
        int part = straying.chance(now, walker, n, NONE);
        int divisor = greatestDivisor(whole, part);
        if (divisor == 0) {
            return NONE;
        }
        return upper ? part / divisor : whole / divisor;
    }

    public int oneMore(int walker, int n) {
        if (!plan.hasWalker(walker)) {
            return UNKNOWN;
        }
        if (n < 1 || n > MOST_STRAYED_FOR_ONE_MORE) {
            return OUTSIDE;
        }
        if (!now.isFree(walker)) {
            return STATE;
        }
        if (plan.traps >= MOST_TRAPS) {
            return FULL;
        }
        int best = NONE;
        int most = -1;
        for (int c = 0; c < CELLS; c++) {
            boolean isOpen = (plan.closed >> c & 1) == 0 && plan.trapOn(c) == NONE;
            int part = isOpen ? straying.chance(now, walker, n, c) : -1;
            if (part > most) {
                most = part;
                best = c;
            }
        }
        return best;
    }

    public long seed(long v) {
        long was = seedNow;
        seedNow = v;
        return was;
    }

    public int night(int m) {
        if (m < 1 || m > MOST_ROUNDS) {
            return OUTSIDE;
        }
        dream.become(now);
        for (int round = 0; round < m; round++) {
            for (int w = 0; w < MOST_WALKERS; w++) {
                if (plan.hasWalker(w) && dream.isFree(w)) {
                    drawStep(w);
                }
            }
        }
        return dream.caught();
    }

    // ---- slots

    public int keep(int slot) {
        if (!isSlot(slot)) {
            return UNKNOWN;
        }
        Scene kept = slots[slot];
        if (kept != null) {
            kept.become(now);
            isKept[slot] = true;
        }
        return freeWalkers();
    }

    public int again(int slot) {
        if (!isSlot(slot)) {
            return UNKNOWN;
        }
        if (!isKept[slot]) {
            return STATE;
        }
        now.become(slots[slot]);
        acts.forget();
        return freeWalkers();
    }

    public int count(int what) {
        switch (what) {
            case 0:
                return text.length;
            case 1:
                return plan.traps;
            case 2:
                return plan.walkers;
            case 3:
                return now.armed;
            case 4:
                return now.caught();
            case 5:
                return now.knows[0];
            case 6:
                return now.knows[1];
            case 7:
                return plan.closed;
            case 8:
                return acts.length;
            case 9:
                return now.frozen ? 1 : 0;
            default:
                return OUTSIDE;
        }
    }

    // ---- what several calls share

    private static boolean isCell(int cell) {
        return cell >= 0 && cell < CELLS;
    }

    private static boolean isSide(int side) {
        return side >= 0 && side < SIDES;
    }

    private static boolean isSlot(int slot) {
        return slot >= 0 && slot < SLOTS;
    }

    private static int neighbours(int cell) {
        return isCell(cell) ? AROUND[cell] : 0;
    }

    private static int greatestDivisor(int a, int b) {
        int more = a;
        int less = b;
        // A hundred rounds are far more than two ints can need.
        for (int i = 0; i < 100 && less != 0; i++) {
            int left = more % less;
            more = less;
            less = left;
        }
        return more;
    }

    /** The place of the bit behind so many lower ones, or NONE. */
    private static int bitAt(int bits, int index) {
        int left = index;
        for (int i = 0; i < CELLS; i++) {
            if ((bits >> i & 1) != 0) {
                if (left == 0) {
                    return i;
                }
                left--;
            }
        }
        return NONE;
    }

    private int unknownFrom(int side, int cell) {
        if (!isSide(side) || !isCell(cell)) {
            return 0;
        }
        return plan.trapsOn(neighbours(cell) | 1 << cell) & ~now.knows[side];
    }

    /** 0: none. */
    private int refusalOfWay(int walker, int cell) {
        if (!plan.hasWalker(walker) || !isCell(cell)) {
            return UNKNOWN;
        }
        return now.isFree(walker) ? 0 : STATE;
    }

    /** The cells of traps that a walker would not step on, by what its side knows. */
    private int dangerFor(int walker) {
        if (!plan.hasWalker(walker)) {
            return 0;
        }
        int side = plan.walkerSide[walker];
        return isSide(side) ? plan.cellsOf(now.knows[side] & now.armed & ~plan.shams) : 0;
    }

    private void drawStep(int walker) {
        if (!plan.hasWalker(walker)) {
            return;
        }
        int ways = plan.waysFrom(dream.at[walker]);
        int number = Integer.bitCount(ways);
        if (number == 0) {
            return;
        }
        seedNow = seedNow * SEED_TIMES + SEED_AND;
        int drawn = (int) (seedNow >>> 33) % number;
        dream.walk(walker, bitAt(ways, drawn));
    }

    private int freeWalkers() {
        return plan.walkers - Integer.bitCount(now.caught());
    }

    /** The text: bytes, whatever they tell. */
    private static final class Text {
        final int[] bytes = new int[MOST_BYTES];
        int length = 0;

        int append(int n, long v) {
            for (int i = n - 1; i >= 0 && length >= 0 && length < MOST_BYTES; i--) {
                bytes[length] = (int) (v >>> 8 * i) & 255;
                length++;
            }
            return length;
        }
    }

    /** What a text tells once and no act changes. */
    private static final class Plan {
        int traps = 0;
        int walkers = 0;
        int closed = 0;
        int shams = 0;
        private int snares = 0;
        private int nets = 0;
        final int[] trapCell = new int[MOST_TRAPS];
        final int[] trapSide = new int[MOST_TRAPS];
        final int[] trapKind = new int[MOST_TRAPS];
        final int[] setsOff = new int[MOST_TRAPS];
        final int[] walkerStart = new int[MOST_WALKERS];
        final int[] walkerSide = new int[MOST_WALKERS];

        void clear() {
            traps = 0;
            walkers = 0;
            closed = 0;
            shams = 0;
            snares = 0;
            nets = 0;
            for (int t = 0; t < MOST_TRAPS; t++) {
                setsOff[t] = 0;
            }
        }

        void addTrap(int cell, int side, int kind) {
            if (traps < 0 || traps >= MOST_TRAPS) {
                return;
            }
            int bit = 1 << traps;
            trapCell[traps] = cell;
            trapSide[traps] = side;
            trapKind[traps] = kind;
            shams |= kind == SHAM ? bit : 0;
            snares |= kind == SNARE || kind == DOUBLE ? bit : 0;
            nets |= kind == NET ? bit : 0;
            traps++;
        }

        void addWalker(int cell, int side) {
            if (walkers < 0 || walkers >= MOST_WALKERS) {
                return;
            }
            walkerStart[walkers] = cell;
            walkerSide[walkers] = side;
            walkers++;
        }

        boolean hasTrap(int trap) {
            return trap >= 0 && trap < traps && trap < MOST_TRAPS;
        }

        boolean hasWalker(int walker) {
            return walker >= 0 && walker < walkers && walker < MOST_WALKERS;
        }

        int allTraps() {
            return (1 << traps) - 1;
        }

        int waysFrom(int cell) {
            return neighbours(cell) & ~closed;
        }

        int trapOn(int cell) {
            for (int t = 0; t < MOST_TRAPS && t < traps; t++) {
                if (trapCell[t] == cell) {
                    return t;
                }
            }
            return NONE;
        }

        int trapsOn(int cells) {
            int on = 0;
            for (int t = 0; t < MOST_TRAPS && t < traps; t++) {
                on |= (cells >> trapCell[t] & 1) << t;
            }
            return on;
        }

        int cellsOf(int some) {
            int cells = 0;
            for (int t = 0; t < MOST_TRAPS && t < traps; t++) {
                cells |= (some >> t & 1) << trapCell[t];
            }
            return cells;
        }

        int startCells() {
            int cells = 0;
            for (int w = 0; w < MOST_WALKERS && w < walkers; w++) {
                cells |= 1 << walkerStart[w];
            }
            return cells;
        }

        /** All that spring in the end, if those of the start that are ready do, and no others than ready ones can. */
        int spread(int start, int ready) {
            int sprang = 0;
            int wave = start & ready;
            for (int i = 0; i < MOST_TRAPS && wave != 0; i++) {
                sprang |= wave;
                int next = 0;
                for (int t = 0; t < MOST_TRAPS; t++) {
                    next |= (wave >> t & 1) != 0 ? setsOff[t] : 0;
                }
                wave = next & ready & ~sprang;
            }
            return sprang;
        }

        boolean catches(int trap, int walker) {
            if (!hasTrap(trap) || !hasWalker(walker)) {
                return false;
            }
            int catching = walkerSide[walker] == NONE ? nets : nets | snares;
            return (catching >> trap & 1) != 0;
        }

        /** Whether a step on a trap that is ready does no more than wake it. */
        boolean onlyWakes(int trap, int woken) {
            return hasTrap(trap) && trapKind[trap] == DOUBLE && (woken >> trap & 1) == 0;
        }
    }

    /** Reads a text byte by byte; the first one that is not taken is the fault. */
    private static final class Reader {
        private static final int START = 0, BETWEEN = 1;

        private Plan into;
        private int part = START;
        private int place = 0;
        private int one = 0;
        private int two = 0;

        Reader(Plan first) {
            into = first;
        }

        int read(Text text, Plan told) {
            into = told;
            into.clear();
            part = START;
            for (int i = 0; i < MOST_BYTES && i < text.length; i++) {
                if (!take(text.bytes[i])) {
                    return i;
                }
            }
            return part == BETWEEN ? NONE : text.length;
        }

        private boolean take(int sign) {
            switch (part) {
                case START:
                    part = BETWEEN;
                    return sign == 'F';
                case 'T':
                    return takeOfTrap(sign);
                case 'W':
                    return takeOfWire(sign);
                case 'X':
                    return takeOfClosed(sign);
                case 'G':
                    return takeOfWalker(sign);
                default:
                    return takeFirst(sign);
            }
        }

        /** A part is begun only if it could be ended: some cell, or some wire, is still left for it. */
        private boolean takeFirst(int sign) {
            part = sign;
            place = 0;
            switch (sign) {
                case 'T':
                    return into.traps < MOST_TRAPS;
                case 'W':
                    return canBeWired();
                case 'X':
                    return cellsToClose() != 0;
                case 'G':
                    return into.walkers < MOST_WALKERS && into.closed != ALL_CELLS;
                default:
                    return false;
            }
        }

        private boolean takeOfTrap(int sign) {
            if (place < 2) {
                return takeOfCell(sign, ALL_CELLS & ~into.cellsOf(into.allTraps()));
            }
            int figure = sign - '0';
            if (place == 2) {
                two = figure;
                place++;
                return isSide(figure);
            }
            if (figure < 0 || figure >= KINDS) {
                return false;
            }
            into.addTrap(one, two, figure);
            part = BETWEEN;
            return true;
        }

        private boolean takeOfWire(int sign) {
            int figure = sign - '0';
            if (place == 0) {
                one = figure;
                place++;
                return wiresLeft(figure) != 0;
            }
            if (!into.hasTrap(one) || !into.hasTrap(figure) || (wiresLeft(one) >> figure & 1) == 0) {
                return false;
            }
            into.setsOff[one] |= 1 << figure;
            part = BETWEEN;
            return true;
        }

        private boolean takeOfClosed(int sign) {
            if (!takeOfCell(sign, cellsToClose())) {
                return false;
            }
            if (place == 2) {
                into.closed |= 1 << one;
                part = BETWEEN;
            }
            return true;
        }

        private boolean takeOfWalker(int sign) {
            if (place < 2) {
                return takeOfCell(sign, ALL_CELLS & ~into.closed);
            }
            // A beast is told by its sign alone: a sign below '0' makes a figure that may look like NONE.
            boolean isBeast = sign == '-';
            int figure = sign - '0';
            if (!isBeast && !isSide(figure)) {
                return false;
            }
            into.addWalker(one, isBeast ? NONE : figure);
            part = BETWEEN;
            return true;
        }

        /** One of the two figures of a cell, which must end up among the open ones. */
        private boolean takeOfCell(int sign, int open) {
            int figure = sign - '0';
            if (figure < 0 || figure > 9) {
                return false;
            }
            place++;
            if (place == 1) {
                one = figure;
                return figure == 0 ? (open & LOW_CELLS) != 0 : figure == 1 && (open & HIGH_CELLS) != 0;
            }
            one = one * 10 + figure;
            return isCell(one) && (open >> one & 1) != 0;
        }

        private int cellsToClose() {
            return ALL_CELLS & ~into.closed & ~into.startCells();
        }

        private int wiresLeft(int from) {
            return into.hasTrap(from) ? into.allTraps() & ~into.setsOff[from] & ~(1 << from) : 0;
        }

        private boolean canBeWired() {
            int left = 0;
            for (int t = 0; t < MOST_TRAPS; t++) {
                left |= wiresLeft(t);
            }
            return left != 0;
        }
    }

    /** What acts and frost change. */
    private static final class Scene {
        private final Plan plan;
        int armed = 0;
        int woken = 0;
        boolean frozen = false;
        final int[] knows = new int[SIDES];
        final int[] at = new int[MOST_WALKERS];
        final int[] by = new int[MOST_WALKERS];

        Scene(Plan of) {
            plan = of;
        }

        void begin() {
            armed = plan.allTraps();
            woken = 0;
            frozen = false;
            for (int s = 0; s < SIDES; s++) {
                knows[s] = 0;
                for (int t = 0; t < MOST_TRAPS && t < plan.traps; t++) {
                    knows[s] |= plan.trapSide[t] == s ? 1 << t : 0;
                }
            }
            for (int w = 0; w < MOST_WALKERS; w++) {
                at[w] = plan.walkerStart[w];
                by[w] = NONE;
            }
        }

        void become(Scene other) {
            if (other == null) {
                return;
            }
            armed = other.armed;
            woken = other.woken;
            frozen = other.frozen;
            for (int s = 0; s < SIDES; s++) {
                knows[s] = other.knows[s];
            }
            for (int w = 0; w < MOST_WALKERS; w++) {
                at[w] = other.at[w];
                by[w] = other.by[w];
            }
        }

        /** The traps that spring if something makes them. */
        int ready() {
            return frozen ? 0 : armed & ~plan.shams;
        }

        boolean isFree(int walker) {
            return plan.hasWalker(walker) && by[walker] == NONE;
        }

        int caught() {
            int caught = 0;
            for (int w = 0; w < MOST_WALKERS && w < plan.walkers; w++) {
                caught |= by[w] == NONE ? 0 : 1 << w;
            }
            return caught;
        }

        /** Which traps spring by a step that can be made. */
        int walk(int walker, int cell) {
            if (!plan.hasWalker(walker)) {
                return 0;
            }
            at[walker] = cell;
            int trap = plan.trapOn(cell);
            if (!plan.hasTrap(trap) || (ready() >> trap & 1) == 0) {
                return 0;
            }
            if (plan.onlyWakes(trap, woken)) {
                woken |= 1 << trap;
                return 0;
            }
            int sprang = plan.spread(1 << trap, ready());
            spring(sprang);
            return sprang;
        }

        private void spring(int sprang) {
            armed &= ~sprang;
            woken &= ~sprang;
            for (int s = 0; s < SIDES; s++) {
                knows[s] |= sprang;
            }
            // Waves need no order here: a walker stands on one trap at most, and each springs once.
            for (int w = 0; w < MOST_WALKERS && w < plan.walkers; w++) {
                int trap = plan.trapOn(at[w]);
                boolean isSprung = trap != NONE && (sprang >> trap & 1) != 0;
                if (isSprung && isFree(w) && plan.catches(trap, w)) {
                    by[w] = trap;
                }
            }
        }
    }

    /** The row of acts, each told by how things were ahead of it, in a ring of scenes that are used again. */
    private static final class Acts {
        private final Scene[] ahead = new Scene[MOST_ACTS];
        private int oldest = 0;
        int length = 0;

        Acts(Plan plan) {
            for (int i = 0; i < MOST_ACTS; i++) {
                ahead[i] = new Scene(plan);
            }
        }

        void forget() {
            length = 0;
        }

        void remember(Scene now) {
            Scene next = ahead[(oldest + length) % MOST_ACTS];
            if (next == null) {
                return;
            }
            next.become(now);
            if (length < MOST_ACTS) {
                length++;
            } else {
                oldest = (oldest + 1) % MOST_ACTS;
            }
        }

        void takeBack(Scene now) {
            if (length > 0) {
                length--;
                now.become(ahead[(oldest + length) % MOST_ACTS]);
            }
        }
    }

    /** The fewest steps to a cell, measured from its end, so that the first way can be read off from its start. */
    private static final class Way {
        private final Plan plan;
        private final int[] left = new int[CELLS];

        Way(Plan of) {
            plan = of;
        }

        void measure(int start, int end, int danger) {
            for (int c = 0; c < CELLS; c++) {
                left[c] = NONE;
            }
            // Danger where it stands does not matter: it need not step there.
            int open = ALL_CELLS & ~plan.closed & ~danger | 1 << start;
            int wave = open & 1 << end;
            int seen = wave;
            for (int steps = 0; steps < CELLS && wave != 0; steps++) {
                int next = 0;
                for (int c = 0; c < CELLS; c++) {
                    if ((wave >> c & 1) != 0) {
                        left[c] = steps;
                        next |= neighbours(c);
                    }
                }
                wave = next & open & ~seen;
                seen |= wave;
            }
        }

        int stepsFrom(int cell) {
            return isCell(cell) ? left[cell] : NONE;
        }

        int cellBehind(int start, int i) {
            if (i < 0 || i >= stepsFrom(start)) {
                return NONE;
            }
            int cell = start;
            for (int k = 0; k <= i && k < CELLS; k++) {
                cell = nextFrom(cell);
            }
            return cell;
        }

        private int nextFrom(int cell) {
            int next = neighbours(cell);
            int steps = stepsFrom(cell);
            for (int c = 0; c < CELLS; c++) {
                if ((next >> c & 1) != 0 && left[c] != NONE && left[c] == steps - 1) {
                    return c;
                }
            }
            return NONE;
        }
    }

    /** How likely one that strays is caught, in parts of 12 for each step: 1, 2, 3, 4 ways share these evenly. */
    private static final class Straying {
        private final Plan plan;
        private int walker = 0;
        private int net = NONE;

        Straying(Plan of) {
            plan = of;
        }

        static int wholeOf(int steps) {
            int whole = 1;
            for (int i = 0; i < MOST_STRAYED && i < steps; i++) {
                whole *= 12;
            }
            return whole;
        }

        /** The parts of the whole; a net lies on one cell more, unless that is NONE. */
        int chance(Scene now, int who, int steps, int netCell) {
            if (now.frozen || !plan.hasWalker(who)) {
                return 0;
            }
            walker = who;
            net = netCell;
            return caughtFrom(now.at[who], now.armed, now.woken, steps, wholeOf(steps));
        }

        private int caughtFrom(int cell, int armed, int woken, int steps, int whole) {
            int ways = plan.waysFrom(cell);
            int number = Integer.bitCount(ways);
            if (steps <= 0 || steps > MOST_STRAYED || number == 0) {
                return 0;
            }
            int each = whole / number;
            int sum = 0;
            for (int c = 0; c < CELLS; c++) {
                sum += (ways >> c & 1) != 0 ? caughtOn(c, armed, woken, steps, each) : 0;
            }
            return sum;
        }

        private int caughtOn(int cell, int armed, int woken, int steps, int whole) {
            if (cell == net) {
                return whole;
            }
            int ready = armed & ~plan.shams;
            int trap = plan.trapOn(cell);
            if (!plan.hasTrap(trap) || (ready >> trap & 1) == 0) {
                return caughtFrom(cell, armed, woken, steps - 1, whole);
            }
            if (plan.onlyWakes(trap, woken)) {
                return caughtFrom(cell, armed, woken | 1 << trap, steps - 1, whole);
            }
            if (plan.catches(trap, walker)) {
                return whole;
            }
            int sprang = plan.spread(1 << trap, ready);
            return caughtFrom(cell, armed & ~sprang, woken & ~sprang, steps - 1, whole);
        }
    }
}
