import java.util.Arrays;

/** A bench that tests boards through their scan chains. The document's numbered promises say what each call does. */
public final class ScanBench {
    public static final int NONE = -1;

    /** What a call answers where NONE is an answer of its own. */
    private static final int NO_SUCH = -2;
    private static final int TAPE_MOST = 1600;
    private static final int DEVICES_MOST = 4;
    private static final int NETS_MOST = 6;
    private static final int CELLS_MOST = 6;
    /** Cell k of device d has the place d * CELLS_MOST + k, and the bit of that place, so that all cells fit in one int. */
    private static final int PLACES = 24;
    private static final int KINDS = 3;
    private static final int STATES = 16;
    private static final int CLOCKS_MOST = 9999;
    private static final int SCAN_BEFORE = 9000;
    private static final int BITS_MOST = 30;
    private static final int TIME_MOST = 100000;

    private final byte[] tape = new byte[TAPE_MOST];
    private int taped = 0;
    private Board now = new Board();
    /** The next text is read into this one, so that a fault leaves the board that is. */
    private Board spare = new Board();
    private final Reader reader = new Reader(spare);
    private final Ways ways = new Ways();
    private final Chain chain = new Chain();
    private final Past past = new Past();
    private final Judge judge = new Judge();
    private final Lab lab = new Lab();
    private final Notes notes = new Notes();
    private final int[] lying = new int[STATES];
    private int lyingCount = 0;
    private int latestFault = 0;
    private int latestPlace = NONE;
    private int time = 0;

    public ScanBench() {
        past.forget(chain);
    }

    public int feed(int a, int b, int c, int d, int e) {
        if (taped + 20 > TAPE_MOST) {
            return NONE;
        }
        putFour(a);
        putFour(b);
        putFour(c);
        putFour(d);
        putFour(e);
        return taped;
    }

    private void putFour(int number) {
        for (int shift = 24; shift >= 0 && taped < TAPE_MOST; shift -= 8) {
            tape[taped] = (byte) (number >> shift);
            taped++;
        }
    }

    public int end(int n) {
        if (n < 0 || n > taped) {
            return NONE;
        }
        taped = n;
        return n;
    }

    public int board() {
        latestFault = reader.readBoard(tape, taped, spare);
        latestPlace = latestFault == 0 ? NONE : reader.place;
        taped = 0;
        if (latestFault != 0) {
            return NONE;
        }
        Board old = now;
        now = spare;
        spare = old;
        chain.begin(now);
        past.forget(chain);
        past.emptyBoxes();
        notes.forget();
        lab.forget();
        lyingCount = 0;
        return now.devices;
    }

    public int fault(int what) {
        return what == 0 ? latestFault : what == 1 ? latestPlace : NONE;
    }

    public int device(int device, int what) {
        if (!now.hasDevice(device)) {
            return NONE;
        }
        switch (what) {
            case 0: return now.ir[device];
            case 1: return now.id[device];
            case 2: return now.cells[device];
            case 3: return chain.order[device];
            case 4: return chain.orderRegister[device];
            case 5: return chain.data[device];
            case 6: return chain.dataBits(now, device);
            case 7: return chain.latches[device];
            default: return NONE;
        }
    }

    public int net(int net, int what) {
        if (!now.hasNet(net)) {
            return NONE;
        }
        Faults faults = chain.faults;
        int bit = 1 << net;
        switch (what) {
            case 0: return Integer.bitCount(now.drivers[net]);
            case 1: return Integer.bitCount(now.receivers[net]);
            case 2: return now.safe[net];
            case 3: return (faults.stuck & bit) == 0 ? NONE : faults.stuckHigh >> net & 1;
            case 4: return faults.drives(chain.driven(now)) >> net & 1;
            case 5: return faults.levels(chain.driven(now)) >> net & 1;
            case 6: return chain.fighting(now) >> net & 1;
            case 7: return faults.hanging(net);
            default: return NONE;
        }
    }

    public int cell(int device, int cell, int what) {
        if (!now.hasCell(device, cell)) {
            return NO_SUCH;
        }
        int place = placeOf(device, cell);
        switch (what) {
            case 0: return now.netOf[place];
            case 1: return now.netOf[place] == NONE ? NONE : now.allReceivers >> place & 1;
            case 2: return chain.faults.open >> place & 1;
            case 3: return chain.reads(now) >> place & 1;
            default: return NO_SUCH;
        }
    }

    private static int placeOf(int device, int cell) {
        return device * CELLS_MOST + cell;
    }

    public int clock(int tms, int tdi) {
        if (!isBit(tms) || !isBit(tdi) || chain.clocks >= CLOCKS_MOST) {
            return NO_SUCH;
        }
        int out = chain.tick(now, tms, tdi);
        past.keep(chain);
        return out;
    }

    private static boolean isBit(int number) {
        return number == 0 || number == 1;
    }

    public int scan(int sort, int bits, int n) {
        if (!isBit(sort) || n < 1 || n > BITS_MOST || chain.clocks >= SCAN_BEFORE) {
            return NONE;
        }
        int out = chain.sweep(now, ways, sort, bits, n);
        past.keep(chain);
        return out;
    }

    public int harm(int single) {
        if (!now.hasSingle(single) || now.isBarred(chain.faults, single)) {
            return NONE;
        }
        now.turnSingle(chain.faults, single);
        past.keep(chain);
        return chain.faults.count();
    }

    public boolean undo() {
        return past.goBack(chain);
    }

    public boolean redo() {
        return past.goOn(chain);
    }

    public int goes(int tms, int n) {
        if (n < 0 || n > BITS_MOST) {
            return NONE;
        }
        int state = chain.state;
        for (int i = 0; i < n; i++) {
            state = Ways.next(state, tms >> i & 1);
        }
        return state;
    }

    public int walk(int from, int to) {
        lyingCount = 0;
        if (!isState(from) || !isState(to)) {
            return NONE;
        }
        lyingCount = ways.lead(from, to, lying);
        return lyingCount;
    }

    private static boolean isState(int state) {
        return state >= 0 && state < STATES;
    }

    public int walks(int from, int to) {
        return isState(from) && isState(to) ? ways.countWays(from, to) : NONE;
    }

    public int farthest(int from) {
        return isState(from) ? ways.farthestFrom(from) : NONE;
    }

    public int length(int sort) {
        if (!isBit(sort)) {
            return NONE;
        }
        int bits = 0;
        for (int d = 0; d < now.devices; d++) {
            bits += sort == 0 ? chain.dataBits(now, d) : now.ir[d];
        }
        return bits;
    }

    public int found(int i) {
        if (i < 0 || i >= now.devices) {
            return NONE;
        }
        int id = now.id[now.devices - 1 - i];
        return id == NONE ? NO_SUCH : id;
    }

    public int fights() {
        return chain.fighting(now);
    }

    public int unsafe() {
        return now.unsafeAt(chain.faults.levels(chain.driven(now)));
    }

    private static boolean isKind(int kind) {
        return kind >= 0 && kind < KINDS;
    }

    public int steps(int kind) {
        return isKind(kind) ? Codes.stepCount(now, kind) : NONE;
    }

    public int tells(int kind, int net) {
        return isKind(kind) && now.hasNet(net) ? Codes.stepsOf(now, kind, net) : NONE;
    }

    /** The judge looks at the board as it is now. */
    private Judge judged(int kind) {
        judge.look(now, chain.faults, kind, chain.floating(now));
        return judge;
    }

    public int answer(int kind, int device, int cell) {
        if (!isKind(kind) || !now.hasReceiver(device, cell)) {
            return NONE;
        }
        return judged(kind).answerAt(placeOf(device, cell));
    }

    public int good(int kind) {
        return isKind(kind) ? judged(kind).goodCount() : NONE;
    }

    public int aliased(int kind) {
        return isKind(kind) ? judged(kind).aliasedNets(now, chain.faults) : NONE;
    }

    public int confounded(int kind, int net) {
        return isKind(kind) && now.hasNet(net) ? judged(kind).confoundedWith(now, chain.faults, net) : NONE;
    }

    public int verdict(int kind, int net) {
        return isKind(kind) && now.hasNet(net) ? judged(kind).verdictOf(now, net) : NONE;
    }

    public int singles() {
        return now.singleCount();
    }

    public int single(int single, int what) {
        if (!now.hasSingle(single)) {
            return NONE;
        }
        switch (what) {
            case 0: return now.sortOf(single);
            case 1: return now.firstOf(single);
            case 2: return now.secondOf(single);
            case 3: return now.isThere(chain.faults, single) ? 1 : 0;
            default: return NONE;
        }
    }

    public int apart(int kind, int single, int other) {
        if (!isKind(kind) || !isSingleOrNone(single) || !isSingleOrNone(other)) {
            return NO_SUCH;
        }
        return prepared().parts(now, kind, single, other) ? 1 : 0;
    }

    private Lab prepared() {
        lab.prepare(now);
        return lab;
    }

    private boolean isSingleOrNone(int single) {
        return single == NONE || now.hasSingle(single);
    }

    public int told(int kind, int what) {
        if (!isKind(kind) || !isBit(what)) {
            return NONE;
        }
        return what == 0 ? prepared().countFromNone(now, kind) : prepared().countFromAll(now, kind);
    }

    public int least() {
        return prepared().leastKind(now);
    }

    public int mendFirst(int what) {
        if (!isBit(what)) {
            return NONE;
        }
        int single = judge.bestMended(now, chain.faults, chain.floating(now));
        return what == 0 || single == NONE ? single : judge.bestCount;
    }

    public int safest(int what) {
        if (!isBit(what)) {
            return NONE;
        }
        int pattern = judge.safestPattern(now, chain.faults, chain.floating(now));
        return what == 0 || pattern == NONE ? pattern : judge.bestCount;
    }

    public int cost(int kind) {
        if (!isKind(kind)) {
            return NONE;
        }
        int orderBits = 0;
        int cells = 0;
        for (int d = 0; d < now.devices; d++) {
            orderBits += now.ir[d];
            cells += now.cells[d];
        }
        return 1 + orderBits + 6 + Codes.stepCount(now, kind) * (cells + 5);
    }

    public int worst() {
        return judged(Codes.COUNT).worstNet(now);
    }

    public int law(int n) {
        if (!isBit(n)) {
            return NONE;
        }
        judge.look(now, chain.faults, Codes.COUNT, n == 1 ? chain.faults.open : 0);
        return judge.goodCount();
    }

    public int odds(int n, int part) {
        if (n < 0 || n > 4 || !isBit(part)) {
            return NONE;
        }
        int upper = 1;
        int lower = 1;
        for (int i = 0; i < n; i++) {
            upper *= 100 - now.noise;
            lower *= 100;
        }
        int common = commonDivisor(upper, lower);
        return (part == 0 ? upper : lower) / common;
    }

    /** The greatest one; 1 at least, so that it may divide. */
    private static int commonDivisor(int a, int b) {
        for (int i = 0; i < 64 && b != 0; i++) {
            int rest = a % b;
            a = b;
            b = rest;
        }
        return Math.max(a, 1);
    }

    public int lies(int i) {
        return i >= 0 && i < lyingCount ? lying[i] : NO_SUCH;
    }

    public int seen(int kind, int step, int device, int cell, boolean is) {
        if (!isKind(kind) || step < 0 || step >= Codes.stepCount(now, kind) || !now.hasReceiver(device, cell)) {
            return NONE;
        }
        return notes.write(kind, step, placeOf(device, cell), is, time);
    }

    public boolean untell(int seen) {
        return notes.strike(seen, time);
    }

    public int later(int by) {
        if (by < 0 || by > 1000 || time + by > TIME_MOST) {
            return NONE;
        }
        time += by;
        return time;
    }

    public int fits(int k) {
        return Long.bitCount(notes.fitting(now, prepared(), k));
    }

    public int culprit(int i, int k) {
        return notes.fittingAt(now, prepared(), i, k);
    }

    public int ask(int kind, int what, int k) {
        if (!isKind(kind) || !isBit(what)) {
            return NONE;
        }
        int step = notes.bestStep(now, prepared(), kind, k);
        return what == 0 || step == NONE ? step : notes.bestLeft;
    }

    public int image(int box) {
        return past.putInBox(chain, box) ? chain.state : NONE;
    }

    public int back(int box) {
        if (!past.takeFromBox(chain, box)) {
            return NONE;
        }
        past.forget(chain);
        return chain.state;
    }

    public int about(int what) {
        switch (what) {
            case 0: return now.devices;
            case 1: return now.nets;
            case 2: return chain.faults.count();
            case 3: return chain.state;
            case 4: return chain.clocks;
            case 5: return chain.seed;
            case 6: return past.undoable();
            case 7: return past.redoable();
            case 8: return notes.count;
            case 9: return time;
            case 10: return taped;
            case 11: return now.floats.units;
            case 12: return lyingCount;
            case 13: return now.noise;
            default: return NONE;
        }
    }

    /** The sixteen states and the walks between them. */
    private static final class Ways {
        /** State by state, what follows by TMS 0, by TMS 1. */
        private static final int[] NEXT = {
            1, 0, 1, 2, 3, 9, 4, 5, 4, 5, 6, 8, 6, 7, 4, 8,
            1, 2, 10, 0, 11, 12, 11, 12, 13, 15, 13, 14, 11, 15, 1, 2};

        private final int[] far = new int[STATES];
        private final int[] count = new int[STATES];

        static int next(int state, int tms) {
            return NEXT[(state & 15) * 2 + (tms & 1)];
        }

        /** How far each state is from the one, or, backward, from each to the one. */
        private void measure(int one, boolean backward) {
            Arrays.fill(far, STATES);
            far[one] = 0;
            boolean grown = true;
            for (int round = 1; round < STATES && grown; round++) {
                grown = false;
                for (int i = 0; i < 2 * STATES; i++) {
                    int near = backward ? NEXT[i] : i / 2;
                    int beyond = backward ? i / 2 : NEXT[i];
                    if (far[near] == round - 1 && far[beyond] > round) {
                        far[beyond] = round;
                        grown = true;
                    }
                }
            }
        }

        /** The first of the shortest walks, put into a row of STATES numbers: its length. */
        int lead(int from, int to, int[] row) {
            measure(to, true);
            int state = from;
            int steps = Math.min(far[from], row.length);
            for (int i = 0; i < steps; i++) {
                int low = next(state, 0);
                row[i] = far[low] < far[state] ? 0 : 1;
                state = next(state, row[i]);
            }
            return steps;
        }

        int countWays(int from, int to) {
            measure(to, true);
            Arrays.fill(count, 0);
            count[to] = 1;
            for (int round = 1; round <= far[from] && round < STATES; round++) {
                for (int state = 0; state < STATES; state++) {
                    if (far[state] == round) {
                        count[state] = waysThrough(next(state, 0), round) + waysThrough(next(state, 1), round);
                    }
                }
            }
            return count[from];
        }

        private int waysThrough(int state, int round) {
            return far[state] == round - 1 ? count[state] : 0;
        }

        int farthestFrom(int from) {
            measure(from, false);
            int best = 0;
            for (int state = 1; state < STATES; state++) {
                if (far[state] > far[best]) {
                    best = state;
                }
            }
            return best;
        }
    }

    /** A formula, kept with its operators behind what they join, so that a stack is enough to work it out. */
    private static final class Formula {
        static final int DEVICE = -1;
        static final int CELL = -2;
        static final int NET = -3;
        static final int CLOCK = -4;
        static final int NOT = -5;
        static final int OR = -6;
        static final int AND = -7;
        static final int UNITS_MOST = 30;
        /** 30 units, 29 that join them, and 7 nots ahead of each are 269. */
        private static final int CODE_MOST = 300;

        /** Numbers stand for themselves; all else is below 0: the names above, signs as their byte, negated. */
        private final int[] code = new int[CODE_MOST];
        private final int[] stack = new int[UNITS_MOST];
        private int size = 0;
        int units = 0;

        void clear() {
            size = 0;
            units = 0;
        }

        void put(int op) {
            if (size < CODE_MOST) {
                code[size] = op;
                size++;
            }
        }

        int value(int place, int net, int clock) {
            int top = 0;
            for (int i = 0; i < size; i++) {
                int op = code[i];
                if (op > NOT) {
                    if (top < UNITS_MOST) {
                        stack[top] = op >= 0 ? op : named(op, place, net, clock);
                        top++;
                    }
                } else if (op == NOT) {
                    if (top > 0) {
                        stack[top - 1] = stack[top - 1] == 0 ? 1 : 0;
                    }
                } else if (top > 1) {
                    top--;
                    stack[top - 1] = joined(op, stack[top - 1], stack[top]);
                }
            }
            return top > 0 ? stack[0] : 0;
        }

        private static int named(int op, int place, int net, int clock) {
            switch (op) {
                case DEVICE: return place / CELLS_MOST;
                case CELL: return place % CELLS_MOST;
                case NET: return net;
                default: return clock;
            }
        }

        private static int joined(int op, int a, int b) {
            switch (op) {
                case OR: return a != 0 || b != 0 ? 1 : 0;
                case AND: return a != 0 && b != 0 ? 1 : 0;
                case -'<': return a < b ? 1 : 0;
                case -'>': return a > b ? 1 : 0;
                case -'=': return a == b ? 1 : 0;
                case -'+': return a + b;
                case -'-': return a - b;
                case -'*': return a * b;
                case -'/': return b == 0 ? 0 : a / b;
                default: return b == 0 ? 0 : a % b;
            }
        }
    }

    /** Which faults there are: nets and cells as bits, two nets as the bit of their pair. */
    private static final class Faults {
        static final int PAIRS = 15;
        static final int FIELDS = 5;
        private static final int[] LESSER = {0, 0, 0, 0, 0, 1, 1, 1, 1, 2, 2, 2, 3, 3, 4};
        private static final int[] OTHER = {1, 2, 3, 4, 5, 2, 3, 4, 5, 3, 4, 5, 4, 5, 5};

        int stuck = 0;
        /** Of those that are stuck, which at 1. */
        int stuckHigh = 0;
        int open = 0;
        int low = 0;
        int high = 0;

        void mendAll() {
            stuck = 0;
            stuckHigh = 0;
            open = 0;
            low = 0;
            high = 0;
        }

        void takeOver(Faults other) {
            stuck = other.stuck;
            stuckHigh = other.stuckHigh;
            open = other.open;
            low = other.low;
            high = other.high;
        }

        int count() {
            return Integer.bitCount(stuck) + Integer.bitCount(open) + Integer.bitCount(low | high);
        }

        /** The pair of two unlike nets, in whatever order. */
        static int pairOf(int net, int other) {
            int lesser = Math.min(net, other);
            int greater = Math.max(net, other);
            int pair = 0;
            while (pair < PAIRS - 1 && (LESSER[pair] != lesser || OTHER[pair] != greater)) {
                pair++;
            }
            return pair;
        }

        private static int netsOf(int pair) {
            return 1 << LESSER[pair] | 1 << OTHER[pair];
        }

        int hanging(int net) {
            int shorts = low | high;
            int group = 1 << net;
            int before = 0;
            for (int round = 0; round < NETS_MOST && group != before; round++) {
                before = group;
                for (int pair = 0; pair < PAIRS && shorts >> pair != 0; pair++) {
                    if ((shorts >> pair & 1) != 0 && (group & netsOf(pair)) != 0) {
                        group |= netsOf(pair);
                    }
                }
            }
            return group;
        }

        private boolean pullsLow(int group) {
            for (int pair = 0; pair < PAIRS && low >> pair != 0; pair++) {
                if ((low >> pair & 1) != 0 && (group & netsOf(pair)) != 0) {
                    return true;
                }
            }
            return false;
        }

        int drives(int driven) {
            return driven & ~stuck | stuckHigh;
        }

        int levels(int driven) {
            int drives = drives(driven);
            if ((low | high) == 0) {
                return drives;
            }
            int levels = 0;
            int done = 0;
            for (int net = 0; net < NETS_MOST; net++) {
                if ((done >> net & 1) == 0) {
                    int group = hanging(net);
                    int ones = drives & group;
                    done |= group;
                    if (pullsLow(group) ? ones == group : ones != 0) {
                        levels |= group;
                    }
                }
            }
            return levels;
        }

        void save(int[] row, int at) {
            row[at] = stuck;
            row[at + 1] = stuckHigh;
            row[at + 2] = open;
            row[at + 3] = low;
            row[at + 4] = high;
        }

        void load(int[] row, int at) {
            stuck = row[at];
            stuckHigh = row[at + 1];
            open = row[at + 2];
            low = row[at + 3];
            high = row[at + 4];
        }
    }

    /** What a text tells of a board; the chain has what becomes of it. */
    private static final class Board {
        static final int STUCK = 0;
        static final int OPEN = 1;
        static final int SHORT = 2;

        int devices = 0;
        final long[] deviceNames = new long[DEVICES_MOST];
        final int[] ir = new int[DEVICES_MOST];
        final int[] id = new int[DEVICES_MOST];
        final int[] cells = new int[DEVICES_MOST];
        int nets = 0;
        final long[] netNames = new long[NETS_MOST];
        final int[] drivers = new int[NETS_MOST];
        final int[] receivers = new int[NETS_MOST];
        final int[] safe = new int[NETS_MOST];
        final int[] netOf = new int[PLACES];
        int allReceivers = 0;
        final Faults told = new Faults();
        final Formula floats = new Formula();
        int noise = 0;
        int draw = 0;

        void clear() {
            devices = 0;
            nets = 0;
            Arrays.fill(drivers, 0);
            Arrays.fill(receivers, 0);
            Arrays.fill(safe, NONE);
            Arrays.fill(netOf, NONE);
            allReceivers = 0;
            told.mendAll();
            floats.clear();
            noise = 0;
            draw = 0;
        }

        boolean hasDevice(int device) {
            return device >= 0 && device < devices;
        }

        boolean hasNet(int net) {
            return net >= 0 && net < nets;
        }

        boolean hasCell(int device, int cell) {
            return hasDevice(device) && cell >= 0 && cell < cells[device];
        }

        boolean hasReceiver(int device, int cell) {
            return hasCell(device, cell) && isReceiver(placeOf(device, cell));
        }

        boolean isReceiver(int place) {
            return (allReceivers >> place & 1) != 0;
        }

        /** The nets' bits, those with safe as that tells. */
        int keptSafe(int bits) {
            int kept = bits;
            for (int net = 0; net < nets; net++) {
                if (safe[net] == 0) {
                    kept &= ~(1 << net);
                } else if (safe[net] == 1) {
                    kept |= 1 << net;
                }
            }
            return kept;
        }

        int unsafeAt(int levels) {
            return keptSafe(levels) ^ levels;
        }

        /** Which cells read 1 at such levels, the open ones as they float. */
        int readsAt(int levels, int open, int floating) {
            int reads = 0;
            for (int net = 0; net < nets; net++) {
                if ((levels >> net & 1) != 0) {
                    reads |= drivers[net] | receivers[net];
                }
            }
            return reads & ~open | floating & open;
        }

        /** Which receivers would read 1 at such levels, were none open. */
        int receiversAt(int levels) {
            return readsAt(levels, 0, 0) & allReceivers;
        }

        /** Which of the open cells read 1 by the formula. */
        int floatingAt(int open, int clock) {
            int floating = 0;
            for (int place = 0; place < PLACES && open >> place != 0; place++) {
                if ((open >> place & 1) != 0 && floats.value(place, netOf[place], clock) > 0) {
                    floating |= 1 << place;
                }
            }
            return floating;
        }

        int singleCount() {
            return firstShort() + nets * (nets - 1);
        }

        private int firstOpen() {
            return 2 * nets;
        }

        private int firstShort() {
            return firstOpen() + Integer.bitCount(allReceivers);
        }

        boolean hasSingle(int single) {
            return single >= 0 && single < singleCount();
        }

        int sortOf(int single) {
            return single < firstOpen() ? STUCK : single < firstShort() ? OPEN : SHORT;
        }

        /** Stuck at 1, or short high. */
        private boolean isHigh(int single) {
            int sort = sortOf(single);
            return sort == STUCK ? single % 2 == 1 : sort == SHORT && (single - firstShort()) % 2 == 1;
        }

        private int placeOfOpen(int single) {
            int left = single - firstOpen();
            for (int place = 0; place < PLACES; place++) {
                if (isReceiver(place)) {
                    if (left == 0) {
                        return place;
                    }
                    left--;
                }
            }
            return 0;
        }

        private int pairOfShort(int single) {
            int left = (single - firstShort()) / 2;
            for (int pair = 0; pair < Faults.PAIRS; pair++) {
                if (Faults.OTHER[pair] < nets) {
                    if (left == 0) {
                        return pair;
                    }
                    left--;
                }
            }
            return 0;
        }

        /** The net, the cell's place, or the pair, that it is of. */
        private int targetOf(int single) {
            int sort = sortOf(single);
            return sort == STUCK ? single / 2 : sort == OPEN ? placeOfOpen(single) : pairOfShort(single);
        }

        int firstOf(int single) {
            int sort = sortOf(single);
            int target = targetOf(single);
            return sort == STUCK ? target : sort == OPEN ? target / CELLS_MOST : Faults.LESSER[target];
        }

        int secondOf(int single) {
            int sort = sortOf(single);
            int target = targetOf(single);
            return sort == STUCK ? single % 2 : sort == OPEN ? target % CELLS_MOST : Faults.OTHER[target];
        }

        boolean isThere(Faults faults, int single) {
            int target = targetOf(single);
            boolean isHigh = isHigh(single);
            switch (sortOf(single)) {
                case STUCK: return (faults.stuck >> target & 1) != 0 && (faults.stuckHigh >> target & 1) != 0 == isHigh;
                case OPEN: return (faults.open >> target & 1) != 0;
                default: return ((isHigh ? faults.high : faults.low) >> target & 1) != 0;
            }
        }

        /** It can't be made: the same net is stuck, the same two are short, the other way. */
        boolean isBarred(Faults faults, int single) {
            int sort = sortOf(single);
            int taken = sort == STUCK ? faults.stuck : sort == SHORT ? faults.low | faults.high : 0;
            return (taken >> targetOf(single) & 1) != 0 && !isThere(faults, single);
        }

        /** Mends it, if it is there, else makes it. */
        void turnSingle(Faults faults, int single) {
            int bit = 1 << targetOf(single);
            int highBit = isHigh(single) ? bit : 0;
            switch (sortOf(single)) {
                case STUCK:
                    faults.stuck ^= bit;
                    faults.stuckHigh ^= highBit;
                    break;
                case OPEN:
                    faults.open ^= bit;
                    break;
                default:
                    faults.high ^= highBit;
                    faults.low ^= bit ^ highBit;
                    break;
            }
        }
    }

    /** Reads a text into a board. Each method of a rule stops at the first fault and answers false. */
    private static final class Reader {
        /** In the order of the numbers below; a blank behind each. */
        private static final String KEY_WORDS =
            "device ir id cells net from and to safe short low high open stuck floats noise draw or not cell clock ";
        private static final int KEYS = 21;
        private static final int DEVICE = 0;
        private static final int IR = 1;
        private static final int ID = 2;
        private static final int CELLS = 3;
        private static final int NET = 4;
        private static final int FROM = 5;
        private static final int AND = 6;
        private static final int TO = 7;
        private static final int SAFE = 8;
        private static final int SHORT = 9;
        private static final int LOW = 10;
        private static final int HIGH = 11;
        private static final int OPEN = 12;
        private static final int STUCK = 13;
        private static final int FLOATS = 14;
        private static final int NOISE = 15;
        private static final int DRAW = 16;
        private static final int OR = 17;
        private static final int NOT = 18;
        private static final int CELL = 19;
        private static final int CLOCK = 20;

        private static final int AT_END = 0;
        private static final int AT_NO_TOKEN = 1;
        private static final int AT_KEY = 2;
        private static final int AT_NAME = 3;
        private static final int AT_NUMBER = 4;
        private static final int AT_SIGN = 5;

        private static final int NO_TOKEN = 1;
        private static final int MISPLACED = 2;
        private static final int TOLD_ALREADY = 3;
        private static final int BAD_NUMBER = 4;
        private static final int UNKNOWN = 5;

        private static final int LETTERS_MOST = 8;
        private static final int DIGITS_MOST = 4;
        private static final int WITHIN_MOST = 7;
        private static final int RECEIVERS_MOST = 3;
        private static final int NOISE_MOST = 100;
        private static final int DRAW_MOST = 999;

        private final long[] keys = new long[KEYS];
        private byte[] text = new byte[0];
        private int length = 0;
        /** Behind the token that is looked at. */
        private int ahead = 0;
        private int start = 0;
        private int sort = AT_END;
        /** The number, the key word's number, the sign's byte. */
        private int value = 0;
        /** A word as a number, each letter five bits, so that no text has to be made. */
        private long word = 0;
        private Board board;
        private boolean floatsTold = false;
        private boolean noiseTold = false;
        private boolean drawTold = false;
        private int fault = 0;
        int place = 0;

        Reader(Board first) {
            board = first;
            int key = 0;
            long code = 0;
            for (int i = 0; i < KEY_WORDS.length() && key < KEYS; i++) {
                char c = KEY_WORDS.charAt(i);
                if (c == ' ') {
                    keys[key] = code;
                    key++;
                    code = 0;
                } else {
                    code = code * 32 + (c - 'a' + 1);
                }
            }
        }

        /** The fault (0: none); its place is kept. */
        int readBoard(byte[] bytes, int count, Board into) {
            text = bytes;
            length = Math.min(count, bytes.length);
            board = into;
            board.clear();
            ahead = 0;
            floatsTold = false;
            noiseTold = false;
            drawTold = false;
            fault = 0;
            place = 0;
            advance();
            boolean fine = true;
            for (int i = 0; i < TAPE_MOST && fine && sort != AT_END; i++) {
                fine = line();
            }
            return fault;
        }

        private boolean refuse(int why) {
            fault = sort == AT_NO_TOKEN ? NO_TOKEN : why;
            place = start;
            return false;
        }

        private static boolean isSignByte(int c) {
            return c == ';' || c >= '(' && c <= '-' && c != ',' || c == '/' || c >= '<' && c <= '>' || c == '%';
        }

        private void advance() {
            while (ahead < length && (text[ahead] == ' ' || text[ahead] == '\n')) {
                ahead++;
            }
            start = ahead;
            if (start >= length) {
                sort = AT_END;
                return;
            }
            int c = text[start];
            if (c >= 'a' && c <= 'z') {
                takeWord();
            } else if (c >= '0' && c <= '9') {
                takeNumber();
            } else {
                sort = isSignByte(c) ? AT_SIGN : AT_NO_TOKEN;
                value = c;
                ahead++;
            }
        }

        private void takeWord() {
            word = 0;
            while (ahead < length && text[ahead] >= 'a' && text[ahead] <= 'z') {
                word = word * 32 + (text[ahead] - 'a' + 1);
                ahead++;
            }
            sort = ahead - start > LETTERS_MOST ? AT_NO_TOKEN : AT_NAME;
            for (int key = 0; key < KEYS && sort == AT_NAME; key++) {
                if (keys[key] == word) {
                    sort = AT_KEY;
                    value = key;
                }
            }
        }

        private void takeNumber() {
            value = 0;
            while (ahead < length && text[ahead] >= '0' && text[ahead] <= '9') {
                value = value * 10 + (text[ahead] - '0');
                ahead++;
            }
            boolean tooLong = ahead - start > DIGITS_MOST;
            boolean lettered = ahead < length && text[ahead] >= 'a' && text[ahead] <= 'z';
            sort = tooLong || lettered ? AT_NO_TOKEN : AT_NUMBER;
        }

        private boolean atKey(int key) {
            return sort == AT_KEY && value == key;
        }

        private boolean atSign(int sign) {
            return sort == AT_SIGN && value == sign;
        }

        private boolean takeKey(int key) {
            if (!atKey(key)) {
                return refuse(MISPLACED);
            }
            advance();
            return true;
        }

        private boolean takeSign(int sign) {
            if (!atSign(sign)) {
                return refuse(MISPLACED);
            }
            advance();
            return true;
        }

        /** Whether the token is a number that can be; it stays, as more may be wrong with it. */
        private boolean atNumber(int from, int to) {
            if (sort != AT_NUMBER) {
                return refuse(MISPLACED);
            }
            return value >= from && value <= to || refuse(BAD_NUMBER);
        }

        private boolean line() {
            if (sort != AT_KEY) {
                return refuse(MISPLACED);
            }
            switch (value) {
                case DEVICE: return deviceLine() && takeSign(';');
                case NET: return netLine() && takeSign(';');
                case SHORT: return shortLine() && takeSign(';');
                case OPEN: return openLine() && takeSign(';');
                case STUCK: return stuckLine() && takeSign(';');
                case FLOATS: return floatsLine() && takeSign(';');
                case NOISE: return noiseLine() && takeSign(';');
                case DRAW: return drawLine() && takeSign(';');
                default: return refuse(MISPLACED);
            }
        }

        private static int indexOf(long name, long[] names, int count) {
            for (int i = 0; i < count && i < names.length; i++) {
                if (names[i] == name) {
                    return i;
                }
            }
            return NONE;
        }

        /** Whether the token is a name that none of these has; it stays. */
        private boolean atNewName(long[] names, int count) {
            if (sort != AT_NAME) {
                return refuse(MISPLACED);
            }
            return indexOf(word, names, count) == NONE || refuse(TOLD_ALREADY);
        }

        /** Which of these has the name that is the token, which stays; NONE: refused. */
        private int atOldName(long[] names, int count) {
            if (sort != AT_NAME) {
                refuse(MISPLACED);
                return NONE;
            }
            int index = indexOf(word, names, count);
            if (index == NONE) {
                refuse(UNKNOWN);
            }
            return index;
        }

        private boolean deviceLine() {
            int device = board.devices;
            if (device >= DEVICES_MOST) {
                return refuse(MISPLACED);
            }
            advance();
            if (!atNewName(board.deviceNames, device)) {
                return false;
            }
            board.deviceNames[device] = word;
            board.id[device] = NONE;
            advance();
            if (!takeKey(IR) || !atNumber(2, 4)) {
                return false;
            }
            board.ir[device] = value;
            advance();
            if (atKey(ID)) {
                advance();
                if (!atNumber(0, 127)) {
                    return false;
                }
                board.id[device] = value;
                advance();
            }
            if (!takeKey(CELLS) || !atNumber(0, CELLS_MOST)) {
                return false;
            }
            board.cells[device] = value;
            board.devices++;
            advance();
            return true;
        }

        private boolean netLine() {
            int net = board.nets;
            if (net >= NETS_MOST) {
                return refuse(MISPLACED);
            }
            advance();
            if (!atNewName(board.netNames, net)) {
                return false;
            }
            board.netNames[net] = word;
            advance();
            if (!takeKey(FROM) || !cellOfNet(net, board.drivers)) {
                return false;
            }
            if (atKey(AND)) {
                advance();
                if (!cellOfNet(net, board.drivers)) {
                    return false;
                }
            }
            if (!takeKey(TO) || !cellOfNet(net, board.receivers)) {
                return false;
            }
            for (int count = 1; sort == AT_NAME && count <= RECEIVERS_MOST; count++) {
                if (count == RECEIVERS_MOST) {
                    return refuse(MISPLACED);
                }
                if (!cellOfNet(net, board.receivers)) {
                    return false;
                }
            }
            board.allReceivers |= board.receivers[net];
            board.nets++;
            if (!atKey(SAFE)) {
                return true;
            }
            advance();
            if (!atNumber(0, 1)) {
                return false;
            }
            board.safe[net] = value;
            advance();
            return true;
        }

        /** The place of a cell, of which the number is the token still; NONE: refused. */
        private int atCell() {
            int device = atOldName(board.deviceNames, board.devices);
            if (device == NONE) {
                return NONE;
            }
            advance();
            return atNumber(0, board.cells[device] - 1) ? placeOf(device, value) : NONE;
        }

        private boolean cellOfNet(int net, int[] ends) {
            int cell = atCell();
            if (cell == NONE) {
                return false;
            }
            if (board.netOf[cell] != NONE) {
                return refuse(TOLD_ALREADY);
            }
            board.netOf[cell] = net;
            ends[net] |= 1 << cell;
            advance();
            return true;
        }

        private boolean shortLine() {
            advance();
            int net = atOldName(board.netNames, board.nets);
            if (net == NONE) {
                return false;
            }
            advance();
            int other = atOldName(board.netNames, board.nets);
            if (other == NONE) {
                return false;
            }
            int bit = 1 << Faults.pairOf(net, other);
            if (net == other || ((board.told.low | board.told.high) & bit) != 0) {
                return refuse(TOLD_ALREADY);
            }
            advance();
            if (atKey(LOW)) {
                board.told.low |= bit;
            } else if (atKey(HIGH)) {
                board.told.high |= bit;
            } else {
                return refuse(MISPLACED);
            }
            advance();
            return true;
        }

        private boolean openLine() {
            advance();
            int cell = atCell();
            if (cell == NONE) {
                return false;
            }
            if ((board.told.open >> cell & 1) != 0) {
                return refuse(TOLD_ALREADY);
            }
            if (!board.isReceiver(cell)) {
                return refuse(UNKNOWN);
            }
            board.told.open |= 1 << cell;
            advance();
            return true;
        }

        private boolean stuckLine() {
            advance();
            int net = atOldName(board.netNames, board.nets);
            if (net == NONE) {
                return false;
            }
            if ((board.told.stuck >> net & 1) != 0) {
                return refuse(TOLD_ALREADY);
            }
            advance();
            if (!atNumber(0, 1)) {
                return false;
            }
            board.told.stuck |= 1 << net;
            board.told.stuckHigh |= value << net;
            advance();
            return true;
        }

        private boolean noiseLine() {
            if (noiseTold) {
                return refuse(MISPLACED);
            }
            noiseTold = true;
            advance();
            if (!atNumber(0, NOISE_MOST)) {
                return false;
            }
            board.noise = value;
            advance();
            return true;
        }

        private boolean drawLine() {
            if (drawTold) {
                return refuse(MISPLACED);
            }
            drawTold = true;
            advance();
            if (!atNumber(0, DRAW_MOST)) {
                return false;
            }
            board.draw = value;
            advance();
            return true;
        }

        private boolean floatsLine() {
            if (floatsTold) {
                return refuse(MISPLACED);
            }
            floatsTold = true;
            advance();
            return either(0);
        }

        /** Here and below, within: how many units ( e ) and ones behind not this is in. */
        private boolean either(int within) {
            if (!both(within)) {
                return false;
            }
            for (int i = 0; i < TAPE_MOST && atKey(OR); i++) {
                advance();
                if (!both(within)) {
                    return false;
                }
                board.floats.put(Formula.OR);
            }
            return true;
        }

        private boolean both(int within) {
            if (!one(within)) {
                return false;
            }
            for (int i = 0; i < TAPE_MOST && atKey(AND); i++) {
                advance();
                if (!one(within)) {
                    return false;
                }
                board.floats.put(Formula.AND);
            }
            return true;
        }

        private boolean one(int within) {
            if (!atKey(NOT)) {
                return relation(within);
            }
            if (within >= WITHIN_MOST) {
                return refuse(MISPLACED);
            }
            advance();
            if (!one(within + 1)) {
                return false;
            }
            board.floats.put(Formula.NOT);
            return true;
        }

        private boolean relation(int within) {
            if (!sum(within)) {
                return false;
            }
            if (!atSign('<') && !atSign('>') && !atSign('=')) {
                return true;
            }
            int sign = value;
            advance();
            if (!sum(within)) {
                return false;
            }
            board.floats.put(-sign);
            return true;
        }

        private boolean sum(int within) {
            if (!term(within)) {
                return false;
            }
            for (int i = 0; i < TAPE_MOST && (atSign('+') || atSign('-')); i++) {
                int sign = value;
                advance();
                if (!term(within)) {
                    return false;
                }
                board.floats.put(-sign);
            }
            return true;
        }

        private boolean term(int within) {
            if (!unit(within)) {
                return false;
            }
            for (int i = 0; i < TAPE_MOST && (atSign('*') || atSign('/') || atSign('%')); i++) {
                int sign = value;
                advance();
                if (!unit(within)) {
                    return false;
                }
                board.floats.put(-sign);
            }
            return true;
        }

        private boolean unit(int within) {
            Formula floats = board.floats;
            if (floats.units >= Formula.UNITS_MOST) {
                return refuse(MISPLACED);
            }
            floats.units++;
            if (atSign('(')) {
                if (within >= WITHIN_MOST) {
                    return refuse(MISPLACED);
                }
                advance();
                return either(within + 1) && takeSign(')');
            }
            if (sort == AT_NUMBER) {
                floats.put(value);
            } else if (atKey(DEVICE)) {
                floats.put(Formula.DEVICE);
            } else if (atKey(CELL)) {
                floats.put(Formula.CELL);
            } else if (atKey(NET)) {
                floats.put(Formula.NET);
            } else if (atKey(CLOCK)) {
                floats.put(Formula.CLOCK);
            } else {
                return refuse(MISPLACED);
            }
            advance();
            return true;
        }
    }

    /** The devices in their state, with their registers, and the faults that there are now. */
    private static final class Chain {
        /** How many numbers save() writes. */
        static final int FIELDS = 3 + 4 * DEVICES_MOST + Faults.FIELDS;
        private static final int TEST = 0;
        private static final int WHO = 1;
        private static final int LOOK = 2;
        private static final int WHO_BITS = 8;
        private static final int IDLE = 1;
        private static final int SHIFT_DATA = 4;
        private static final int SHIFT_ORDERS = 11;

        int state = 0;
        int clocks = 0;
        int seed = 0;
        final int[] order = new int[DEVICES_MOST];
        final int[] orderRegister = new int[DEVICES_MOST];
        final int[] data = new int[DEVICES_MOST];
        final int[] latches = new int[DEVICES_MOST];
        final Faults faults = new Faults();
        private final int[] path = new int[STATES];

        void begin(Board board) {
            state = 0;
            clocks = 0;
            seed = board.draw;
            Arrays.fill(orderRegister, 0);
            Arrays.fill(data, 0);
            Arrays.fill(latches, 0);
            for (int d = 0; d < board.devices; d++) {
                order[d] = restingOrder(board, d);
            }
            faults.takeOver(board.told);
        }

        private static int restingOrder(Board board, int device) {
            return board.id[device] != NONE ? WHO : (1 << board.ir[device]) - 1;
        }

        private boolean hasCellsAsData(int device) {
            return order[device] == TEST || order[device] == LOOK;
        }

        private boolean tellsWho(Board board, int device) {
            return order[device] == WHO && board.id[device] != NONE;
        }

        int dataBits(Board board, int device) {
            return hasCellsAsData(device) ? board.cells[device] : tellsWho(board, device) ? WHO_BITS : 1;
        }

        /** Which drivers drive 1: by their latches, or by what is safe. */
        private int driversUp(Board board) {
            int up = 0;
            for (int net = 0; net < board.nets; net++) {
                if (board.safe[net] == 1) {
                    up |= board.drivers[net];
                }
            }
            for (int d = 0; d < board.devices; d++) {
                if (order[d] == TEST) {
                    int shift = placeOf(d, 0);
                    up = up & ~(63 << shift) | latches[d] << shift;
                }
            }
            return up;
        }

        /** What the drivers make of each net, were none stuck or short. */
        int driven(Board board) {
            int up = driversUp(board);
            int driven = 0;
            for (int net = 0; net < board.nets; net++) {
                if ((board.drivers[net] & ~up) == 0) {
                    driven |= 1 << net;
                }
            }
            return driven;
        }

        int fighting(Board board) {
            int up = driversUp(board);
            int fighting = 0;
            for (int net = 0; net < board.nets; net++) {
                if ((board.drivers[net] & ~up) != 0 && (board.drivers[net] & up) != 0) {
                    fighting |= 1 << net;
                }
            }
            return fighting;
        }

        int floating(Board board) {
            return board.floatingAt(faults.open, clocks);
        }

        int reads(Board board) {
            return board.readsAt(faults.levels(driven(board)), faults.open, board.floatingAt(faults.open, clocks));
        }

        /** One clock: TDO; NONE if nothing was shifted. */
        int tick(Board board, int tms, int tdi) {
            int out = NONE;
            switch (state) {
                case 0: rest(board); break;
                case 3: capture(board); break;
                case SHIFT_DATA: out = shiftData(board, tdi); break;
                case 8: giveData(board); break;
                case 10: captureOrders(board); break;
                case SHIFT_ORDERS: out = shiftOrders(board, tdi); break;
                case 15: giveOrders(board); break;
                default: break;
            }
            clocks++;
            state = Ways.next(state, tms);
            return out;
        }

        private void rest(Board board) {
            for (int d = 0; d < board.devices; d++) {
                setOrder(d, restingOrder(board, d));
            }
        }

        private void setOrder(int device, int to) {
            if (order[device] != to) {
                order[device] = to;
                data[device] = 0;
            }
        }

        private void capture(Board board) {
            int reads = reads(board);
            for (int d = 0; d < board.devices; d++) {
                if (hasCellsAsData(d)) {
                    data[d] = reads >> placeOf(d, 0) & (1 << board.cells[d]) - 1;
                } else {
                    data[d] = tellsWho(board, d) ? 2 * board.id[d] + 1 : 0;
                }
            }
            seed = (seed * 137 + 71) % 1000;
            int last = board.devices - 1;
            if (seed % 100 < board.noise && last >= 0 && dataBits(board, last) > 0) {
                data[last] ^= 1;
            }
        }

        private void captureOrders(Board board) {
            for (int d = 0; d < board.devices; d++) {
                orderRegister[d] = 1;
            }
        }

        private int shiftData(Board board, int tdi) {
            int carried = tdi;
            for (int d = 0; d < board.devices; d++) {
                int bits = dataBits(board, d);
                if (bits > 0) {
                    int out = data[d] & 1;
                    data[d] = data[d] >> 1 | carried << bits - 1;
                    carried = out;
                }
            }
            return carried;
        }

        private int shiftOrders(Board board, int tdi) {
            int carried = tdi;
            for (int d = 0; d < board.devices; d++) {
                int out = orderRegister[d] & 1;
                orderRegister[d] = orderRegister[d] >> 1 | carried << board.ir[d] - 1;
                carried = out;
            }
            return carried;
        }

        private void giveData(Board board) {
            for (int d = 0; d < board.devices; d++) {
                if (order[d] == TEST) {
                    latches[d] = data[d];
                }
            }
        }

        private void giveOrders(Board board) {
            for (int d = 0; d < board.devices; d++) {
                setOrder(d, orderRegister[d]);
            }
        }

        /** A scan of n bits: what came out. */
        int sweep(Board board, Ways ways, int sort, int bits, int n) {
            int there = ways.lead(state, sort == 0 ? SHIFT_DATA : SHIFT_ORDERS, path);
            for (int i = 0; i < there && i < STATES; i++) {
                tick(board, path[i], 0);
            }
            int came = 0;
            for (int i = 0; i < n; i++) {
                int out = tick(board, i == n - 1 ? 1 : 0, bits >> i & 1);
                came |= (out & 1) << i;
            }
            int home = ways.lead(state, IDLE, path);
            for (int i = 0; i < home && i < STATES; i++) {
                tick(board, path[i], 0);
            }
            return came;
        }

        void save(int[] row, int at) {
            row[at] = state;
            row[at + 1] = clocks;
            row[at + 2] = seed;
            System.arraycopy(order, 0, row, at + 3, DEVICES_MOST);
            System.arraycopy(orderRegister, 0, row, at + 3 + DEVICES_MOST, DEVICES_MOST);
            System.arraycopy(data, 0, row, at + 3 + 2 * DEVICES_MOST, DEVICES_MOST);
            System.arraycopy(latches, 0, row, at + 3 + 3 * DEVICES_MOST, DEVICES_MOST);
            faults.save(row, at + 3 + 4 * DEVICES_MOST);
        }

        void load(int[] row, int at) {
            state = row[at];
            clocks = row[at + 1];
            seed = row[at + 2];
            System.arraycopy(row, at + 3, order, 0, DEVICES_MOST);
            System.arraycopy(row, at + 3 + DEVICES_MOST, orderRegister, 0, DEVICES_MOST);
            System.arraycopy(row, at + 3 + 2 * DEVICES_MOST, data, 0, DEVICES_MOST);
            System.arraycopy(row, at + 3 + 3 * DEVICES_MOST, latches, 0, DEVICES_MOST);
            faults.load(row, at + 3 + 4 * DEVICES_MOST);
        }
    }

    /** How the chain was ahead of and behind each act that is kept, and in the boxes. */
    private static final class Past {
        private static final int ACTS_MOST = 40;
        private static final int ROWS = ACTS_MOST + 1;
        private static final int BOXES = 3;

        /** A ring: the row of the oldest, then one row behind each act; that of now is among them. */
        private final int[] rows = new int[ROWS * Chain.FIELDS];
        private int oldest = 0;
        private int done = 0;
        private int kept = 0;
        private final int[] boxes = new int[BOXES * Chain.FIELDS];
        private final boolean[] filled = new boolean[BOXES];

        private int rowAt(int acts) {
            return (oldest + acts) % ROWS * Chain.FIELDS;
        }

        void forget(Chain chain) {
            oldest = 0;
            done = 0;
            kept = 0;
            chain.save(rows, rowAt(0));
        }

        void keep(Chain chain) {
            if (done < ACTS_MOST) {
                done++;
            } else {
                oldest = (oldest + 1) % ROWS;
            }
            kept = done;
            chain.save(rows, rowAt(done));
        }

        boolean goBack(Chain chain) {
            if (done == 0) {
                return false;
            }
            done--;
            chain.load(rows, rowAt(done));
            return true;
        }

        boolean goOn(Chain chain) {
            if (done == kept) {
                return false;
            }
            done++;
            chain.load(rows, rowAt(done));
            return true;
        }

        int undoable() {
            return done;
        }

        int redoable() {
            return kept - done;
        }

        void emptyBoxes() {
            for (int box = 0; box < BOXES; box++) {
                filled[box] = false;
            }
        }

        boolean putInBox(Chain chain, int box) {
            if (box < 0 || box >= BOXES) {
                return false;
            }
            chain.save(boxes, box * Chain.FIELDS);
            filled[box] = true;
            return true;
        }

        boolean takeFromBox(Chain chain, int box) {
            if (box < 0 || box >= BOXES || !filled[box]) {
                return false;
            }
            chain.load(boxes, box * Chain.FIELDS);
            return true;
        }
    }

    /** What the codes tell the nets. */
    private static final class Codes {
        static final int COUNT = 0;
        static final int BOTH = 1;
        /** Of one code. */
        static final int STEPS_MOST = 6;
        /** Of all codes together. */
        static final int ALL_STEPS_MOST = 15;

        /** By how many nets there are: s steps are enough while no net's number reaches 2^s - 1, the first with 1 in all. */
        private static final int[] COUNT_STEPS = {0, 2, 2, 3, 3, 3, 3};

        private static int countSteps(int nets) {
            return nets >= 0 && nets < COUNT_STEPS.length ? COUNT_STEPS[nets] : 0;
        }

        static int stepCount(Board board, int kind) {
            int count = countSteps(board.nets);
            return kind == COUNT ? count : kind == BOTH ? 2 * count : board.nets;
        }

        private static int counted(int nets, int step) {
            int bits = 0;
            for (int net = 0; net < nets; net++) {
                bits |= (net + 1 >> step & 1) << net;
            }
            return bits;
        }

        /** In a step, the bits of all nets. */
        static int pattern(Board board, int kind, int step) {
            int count = countSteps(board.nets);
            int bits = 1 << step;
            if (kind == COUNT || kind == BOTH && step < count) {
                bits = counted(board.nets, step);
            } else if (kind == BOTH) {
                bits = ~counted(board.nets, step - count) & (1 << board.nets) - 1;
            }
            return board.keptSafe(bits);
        }

        static int stepsOf(Board board, int kind, int net) {
            int steps = stepCount(board, kind);
            int bits = 0;
            for (int step = 0; step < steps; step++) {
                bits |= (pattern(board, kind, step) >> net & 1) << step;
            }
            return bits;
        }
    }

    /** What the receivers answer to a code, and what that says of the nets. */
    private static final class Judge {
        private static final int ALL_GOOD = 0;
        private static final int ALL_LOW = 1;
        private static final int ALL_HIGH = 2;
        private static final int LIKE_ANOTHER = 3;
        private static final int ELSE = 4;

        /** Step by step, what the nets are told, and which cells read 1. */
        private final int[] patterns = new int[Codes.STEPS_MOST];
        private final int[] reads = new int[Codes.STEPS_MOST];
        private int steps = 0;
        private int goodOnes = 0;
        private final Faults trial = new Faults();
        int bestCount = 0;

        void look(Board board, Faults faults, int kind, int floating) {
            steps = Math.min(Codes.stepCount(board, kind), Codes.STEPS_MOST);
            goodOnes = board.allReceivers;
            for (int step = 0; step < steps; step++) {
                patterns[step] = Codes.pattern(board, kind, step);
                reads[step] = board.readsAt(faults.levels(patterns[step]), faults.open, floating);
                goodOnes &= ~(reads[step] ^ board.receiversAt(patterns[step]));
            }
        }

        int goodCount() {
            return Integer.bitCount(goodOnes);
        }

        int answerAt(int place) {
            return across(reads, place);
        }

        private int across(int[] rows, int bit) {
            int bits = 0;
            for (int step = 0; step < steps; step++) {
                bits |= (rows[step] >> bit & 1) << step;
            }
            return bits;
        }

        int aliasedNets(Board board, Faults faults) {
            int aliased = 0;
            for (int place = 0; place < PLACES; place++) {
                int suspects = board.allReceivers & ~goodOnes & ~faults.open;
                if ((suspects >> place & 1) != 0 && isToldToSome(board, answerAt(place))) {
                    aliased |= 1 << board.netOf[place];
                }
            }
            return aliased;
        }

        private boolean isToldToSome(Board board, int answer) {
            for (int net = 0; net < board.nets; net++) {
                if (across(patterns, net) == answer) {
                    return true;
                }
            }
            return false;
        }

        /** Whether one of these cells answers so. */
        private boolean isAnswerAmong(int places, int answer) {
            for (int place = 0; place < PLACES; place++) {
                if ((places >> place & 1) != 0 && answerAt(place) == answer) {
                    return true;
                }
            }
            return false;
        }

        int confoundedWith(Board board, Faults faults, int net) {
            int apart = ~faults.hanging(net);
            int own = board.receivers[net] & ~goodOnes;
            int confounded = 0;
            for (int other = 0; other < board.nets; other++) {
                if ((apart >> other & 1) != 0 && shareAnswer(own, board.receivers[other] & ~goodOnes)) {
                    confounded |= 1 << other;
                }
            }
            return confounded;
        }

        private boolean shareAnswer(int places, int others) {
            for (int place = 0; place < PLACES; place++) {
                if ((places >> place & 1) != 0 && isAnswerAmong(others, answerAt(place))) {
                    return true;
                }
            }
            return false;
        }

        int verdictOf(Board board, int net) {
            int own = board.receivers[net];
            if ((own & ~goodOnes) == 0) {
                return ALL_GOOD;
            }
            int answer = commonAnswer(own);
            if (answer == NONE) {
                return ELSE;
            }
            if (answer == 0) {
                return ALL_LOW;
            }
            if (answer == (1 << steps) - 1) {
                return ALL_HIGH;
            }
            return isAnswerAmong(board.allReceivers & ~own, answer) ? LIKE_ANOTHER : ELSE;
        }

        /** What all these cells answer; NONE if they don't answer alike. */
        private int commonAnswer(int places) {
            int common = NONE;
            for (int place = 0; place < PLACES; place++) {
                if ((places >> place & 1) != 0) {
                    int answer = answerAt(place);
                    if (common != NONE && common != answer) {
                        return NONE;
                    }
                    common = answer;
                }
            }
            return common;
        }

        int worstNet(Board board) {
            int worst = NONE;
            int most = 0;
            for (int net = 0; net < board.nets; net++) {
                int bad = Integer.bitCount(board.receivers[net] & ~goodOnes);
                if (bad > most) {
                    most = bad;
                    worst = net;
                }
            }
            return worst;
        }

        /** The fault to mend first, the count of good receivers being kept; NONE if there is no fault. */
        int bestMended(Board board, Faults faults, int floating) {
            int best = NONE;
            int singles = board.singleCount();
            for (int single = 0; single < singles; single++) {
                if (board.isThere(faults, single)) {
                    trial.takeOver(faults);
                    board.turnSingle(trial, single);
                    look(board, trial, Codes.COUNT, floating);
                    if (best == NONE || goodCount() > bestCount) {
                        best = single;
                        bestCount = goodCount();
                    }
                }
            }
            return best;
        }

        /** The safest pattern, the count of receivers that read so being kept; NONE if none is safe. */
        int safestPattern(Board board, Faults faults, int floating) {
            int best = NONE;
            for (int pattern = 0; pattern < 1 << board.nets; pattern++) {
                int levels = faults.levels(pattern);
                if (board.unsafeAt(levels) == 0) {
                    int unlike = board.readsAt(levels, faults.open, floating) ^ board.receiversAt(pattern);
                    int count = Integer.bitCount(board.allReceivers & ~unlike);
                    if (best == NONE || count > bestCount) {
                        best = pattern;
                        bestCount = count;
                    }
                }
            }
            return best;
        }
    }

    /** What all receivers read in each step of each code, the board being whole but for one single fault, or for none. */
    private static final class Lab {
        /** 12 stuck, 18 open, 30 short, and none. */
        private static final int CASES_MOST = 61;

        /** A row for each case; its columns are the steps of all codes, one code behind the other. */
        private final int[] reads = new int[CASES_MOST * Codes.ALL_STEPS_MOST];
        private final int[] patterns = new int[Codes.ALL_STEPS_MOST];
        private boolean made = false;
        private final Faults trial = new Faults();

        void forget() {
            made = false;
        }

        /** Makes the table, if it is not; only when asked for, as many a board is never asked. */
        void prepare(Board board) {
            if (made) {
                return;
            }
            int cases = Math.min(board.singleCount() + 1, CASES_MOST);
            int floating = board.floatingAt(board.allReceivers, 0);
            int columns = tellPatterns(board);
            for (int i = 0; i < cases; i++) {
                trial.mendAll();
                if (i > 0) {
                    board.turnSingle(trial, i - 1);
                }
                for (int column = 0; column < columns; column++) {
                    int levels = trial.levels(patterns[column]);
                    int all = board.readsAt(levels, trial.open, floating);
                    reads[i * Codes.ALL_STEPS_MOST + column] = all & board.allReceivers;
                }
            }
            made = true;
        }

        private int tellPatterns(Board board) {
            int column = 0;
            for (int kind = 0; kind < KINDS; kind++) {
                int steps = Codes.stepCount(board, kind);
                for (int step = 0; step < steps && column < Codes.ALL_STEPS_MOST; step++) {
                    patterns[column] = Codes.pattern(board, kind, step);
                    column++;
                }
            }
            return column;
        }

        int columnOf(Board board, int kind, int step) {
            int column = step;
            for (int k = 0; k < kind; k++) {
                column += Codes.stepCount(board, k);
            }
            return column;
        }

        /** Which receivers read 1 in a step by its column, with a single fault (NONE: with none). */
        int readsIn(int column, int single) {
            return reads[(single + 1) * Codes.ALL_STEPS_MOST + column];
        }

        boolean parts(Board board, int kind, int single, int other) {
            int first = columnOf(board, kind, 0);
            int behind = first + Codes.stepCount(board, kind);
            for (int column = first; column < behind; column++) {
                if (readsIn(column, single) != readsIn(column, other)) {
                    return true;
                }
            }
            return false;
        }

        int countFromNone(Board board, int kind) {
            int count = 0;
            int singles = board.singleCount();
            for (int single = 0; single < singles; single++) {
                if (parts(board, kind, single, NONE)) {
                    count++;
                }
            }
            return count;
        }

        int countFromAll(Board board, int kind) {
            int count = 0;
            int singles = board.singleCount();
            for (int single = 0; single < singles; single++) {
                if (partsFromAll(board, kind, single, singles)) {
                    count++;
                }
            }
            return count;
        }

        private boolean partsFromAll(Board board, int kind, int single, int singles) {
            for (int other = NONE; other < singles; other++) {
                if (other != single && !parts(board, kind, single, other)) {
                    return false;
                }
            }
            return true;
        }

        int leastKind(Board board) {
            int best = NONE;
            int fewest = 0;
            for (int kind = 0; kind < KINDS; kind++) {
                int steps = Codes.stepCount(board, kind);
                boolean shorter = best == NONE || steps < fewest;
                if (shorter && countFromNone(board, kind) == board.singleCount()) {
                    best = kind;
                    fewest = steps;
                }
            }
            return best;
        }
    }

    /** What was seen, when it was told and untold, and which single faults fit it. */
    private static final class Notes {
        private static final int MOST = 30;

        private final int[] kinds = new int[MOST];
        private final int[] steps = new int[MOST];
        private final int[] places = new int[MOST];
        private final int[] bits = new int[MOST];
        private final int[] toldAt = new int[MOST];
        /** NONE while it is not untold. */
        private final int[] untoldAt = new int[MOST];
        int count = 0;
        int bestLeft = 0;

        void forget() {
            count = 0;
        }

        int write(int kind, int step, int place, boolean is, int time) {
            if (count >= MOST) {
                return NONE;
            }
            kinds[count] = kind;
            steps[count] = step;
            places[count] = place;
            bits[count] = is ? 1 : 0;
            toldAt[count] = time;
            untoldAt[count] = NONE;
            count++;
            return count - 1;
        }

        boolean strike(int note, int time) {
            if (note < 0 || note >= count || untoldAt[note] != NONE) {
                return false;
            }
            untoldAt[note] = time;
            return true;
        }

        private boolean countsAt(int note, int k) {
            return toldAt[note] <= k && (untoldAt[note] == NONE || untoldAt[note] > k);
        }

        /** Bit s + 1: whether single fault s fits; bit 0: whether none does. */
        long fitting(Board board, Lab lab, int k) {
            long fitting = (1L << board.singleCount() + 1) - 1;
            for (int note = 0; note < count; note++) {
                if (countsAt(note, k)) {
                    fitting &= fittingOne(board, lab, note);
                }
            }
            return fitting;
        }

        private long fittingOne(Board board, Lab lab, int note) {
            long fitting = 0;
            int singles = board.singleCount();
            int column = lab.columnOf(board, kinds[note], steps[note]);
            for (int single = NONE; single < singles; single++) {
                if ((lab.readsIn(column, single) >> places[note] & 1) == bits[note]) {
                    fitting |= 1L << single + 1;
                }
            }
            return fitting;
        }

        int fittingAt(Board board, Lab lab, int i, int k) {
            long fitting = fitting(board, lab, k);
            int left = i;
            int singles = board.singleCount();
            for (int single = NONE; single < singles; single++) {
                if ((fitting >> single + 1 & 1) != 0) {
                    if (left == 0) {
                        return single;
                    }
                    left--;
                }
            }
            return NO_SUCH;
        }

        /** The step to ask for next, how many it leaves at the most being kept; NONE if there is none. */
        int bestStep(Board board, Lab lab, int kind, int k) {
            long fitting = fitting(board, lab, k);
            if (fitting == 0) {
                return NONE;
            }
            int best = NONE;
            int all = Codes.stepCount(board, kind);
            for (int step = 0; step < all; step++) {
                int left = mostAlike(lab, lab.columnOf(board, kind, step), board.singleCount(), fitting);
                if (best == NONE || left < bestLeft) {
                    best = step;
                    bestLeft = left;
                }
            }
            return best;
        }

        /** Of those that fit, for how many at the most all receivers read alike in the step of a column. */
        private static int mostAlike(Lab lab, int column, int singles, long fitting) {
            int most = 0;
            for (int single = NONE; single < singles; single++) {
                if ((fitting >> single + 1 & 1) != 0) {
                    int reads = lab.readsIn(column, single);
                    int alike = 0;
                    for (int other = NONE; other < singles; other++) {
                        if ((fitting >> other + 1 & 1) != 0 && lab.readsIn(column, other) == reads) {
                            alike++;
                        }
                    }
                    most = Math.max(most, alike);
                }
            }
            return most;
        }
    }
}
