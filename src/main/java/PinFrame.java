import java.util.NoSuchElementException;

/** A pin frame painted by its stress: the words in capitals are those of the document's terms. */
public final class PinFrame {
    public static final int NONE = -1;

    private static final int MOST_PINS = 6;
    private static final int WIDTH = 4;
    private static final int HEIGHT = 3;
    private static final int MOST_BARS = 11;
    private static final int MOST_GIVE = 3;
    private static final int MOST_STRENGTH = 999;
    private static final int FIRST_STRENGTH = 99;
    private static final int MOST_LOAD = 9;
    private static final int MOST_WEIGHTS = 4;
    private static final int MOST_TIMES = 999;
    private static final int LOOSE = 0;
    private static final int MANY_SPARES = 4;
    private static final int TOLD_SPARES = 2;
    private static final int CUT_BARS = 3;
    /** A slot is a PIN's direction: 2 times the PIN's number, and 1 more for y. */
    private static final int SLOTS = 2 * MOST_PINS;
    /** Euclid's way with two longs takes fewer steps than this. */
    private static final int EUCLID_STEPS = 200;

    private final Frame frame;
    private final Balance balance;
    private final Pulls pulls;
    private final Joints joints;
    private final Cut section;
    private final Ride ride;
    private final Fraction fraction;

    public PinFrame() {
        Frame built = new Frame();
        Balance settled = new Balance(built);
        frame = built;
        balance = settled;
        pulls = new Pulls(built, settled);
        joints = new Joints(built);
        section = new Cut(built);
        ride = new Ride();
        fraction = new Fraction();
    }

    // ---- what is built

    public int pin(int x, int y) {
        if (frame.pins >= MOST_PINS || !isFreePlace(x, y)) {
            return NONE;
        }
        int number = frame.pins;
        frame.pins++;
        frame.put(number, x, y);
        return number;
    }

    public boolean place(int pin, int x, int y) {
        if (!frame.isPin(pin) || !isFreePlace(x, y)) {
            return false;
        }
        frame.put(pin, x, y);
        return true;
    }

    public int bar(int one, int other, int give) {
        boolean fits = frame.bars < MOST_BARS && frame.isPin(one) && frame.isPin(other) && one != other;
        if (!fits || !isGive(give) || frame.hasBar(one, other)) {
            return NONE;
        }
        return frame.addBar(one, other, give);
    }

    public boolean turn(int bar, boolean on) {
        if (!frame.isBar(bar) || frame.isOn(bar) == on) {
            return false;
        }
        frame.on ^= 1 << bar;
        return true;
    }

    public boolean alter(int bar, boolean strength, int v) {
        if (!frame.isBar(bar)) {
            return false;
        }
        int[] numbers = strength ? frame.strength : frame.give;
        boolean can = strength ? v >= 1 && v <= MOST_STRENGTH : isGive(v);
        if (!can || numbers[bar] == v) {
            return false;
        }
        numbers[bar] = v;
        return true;
    }

    public boolean hold(int pin, int direction, boolean hold) {
        if (!frame.isPin(pin) || !isDirection(direction)) {
            return false;
        }
        int slot = 2 * pin + direction;
        if (frame.held[slot] == hold) {
            return false;
        }
        frame.held[slot] = hold;
        return true;
    }

    public boolean load(int pin, int inX, int inY) {
        if (!frame.isPin(pin) || !isLoad(inX) || !isLoad(inY)) {
            return false;
        }
        frame.loads[2 * pin] = inX;
        frame.loads[2 * pin + 1] = inY;
        return true;
    }

    public int unload() {
        int cleared = 0;
        for (int slot = 0; slot < SLOTS; slot++) {
            if (frame.loads[slot] != 0) {
                frame.loads[slot] = 0;
                cleared++;
            }
        }
        return cleared;
    }

    public int deck(int pin) {
        return frame.isPin(pin) ? ride.addPin(pin) : NONE;
    }

    public int strip() {
        int had = ride.pins;
        ride.pins = 0;
        return had;
    }

    public int train(int digits) {
        return ride.takeWeights(digits);
    }

    public int count(int what) {
        switch (what) {
            case 0:
                return frame.pins;
            case 1:
                return frame.bars;
            case 2:
                return frame.on;
            case 8:
                return ride.pins;
            case 9:
                return ride.weights;
            case 10:
                joints.follow();
                return joints.known;
            default:
                return countOfBalance(what);
        }
    }

    public int of(int pin, int what) throws NoSuchElementException {
        need(frame.isPin(pin));
        switch (what) {
            case 0:
                return frame.spot[2 * pin];
            case 1:
                return frame.spot[2 * pin + 1];
            case 2:
                return frame.loads[2 * pin];
            case 3:
                return frame.loads[2 * pin + 1];
            case 4:
                return (frame.held[2 * pin] ? 1 : 0) + (frame.held[2 * pin + 1] ? 2 : 0);
            case 5:
                return frame.barsAt(pin);
            default:
                throw new NoSuchElementException();
        }
    }

    public int at(int bar, int what) throws NoSuchElementException {
        need(frame.isBar(bar));
        switch (what) {
            case 0:
                return frame.one[bar];
            case 1:
                return frame.other[bar];
            case 2:
                return frame.give[bar];
            case 3:
                return frame.strength[bar];
            case 4:
                return frame.isOn(bar) ? 1 : 0;
            case 5:
                balance.settle(frame.on);
                return balance.spareNumber(bar);
            default:
                throw new NoSuchElementException();
        }
    }

    // ---- what bars bear

    public long pull(int bar, boolean under) throws NoSuchElementException {
        need(frame.isOn(bar) && bears(frame.on, frame.loads));
        return toldPull(bar, under);
    }

    public long state(int k, int bar, boolean under) throws NoSuchElementException {
        need(frame.isOn(bar) && bears(frame.on, frame.loads) && (k == NONE || pulls.isSpare(k)));
        return told(pulls.stateOf(k, bar), balance.scale, under);
    }

    public long flex(int i, int j, boolean under) throws NoSuchElementException {
        need(bears(frame.on, frame.loads) && pulls.isSpare(i) && (j == NONE || pulls.isSpare(j)));
        return told(pulls.giving(i, j), balance.scale * balance.scale, under);
    }

    public long force(int pin, int direction, boolean under) throws NoSuchElementException {
        need(frame.isPin(pin) && isDirection(direction));
        int slot = 2 * pin + direction;
        need(frame.held[slot] && bears(frame.on, frame.loads));
        long brought = frame.loads[slot] * pulls.whole;
        for (int bar = 0; bar < frame.bars; bar++) {
            if (frame.isOn(bar) && frame.brings(bar, slot) != 0) {
                brought += frame.brings(bar, slot) * pulls.overOf(bar);
            }
        }
        return told(-brought, pulls.whole, under);
    }

    public long influence(int bar, int pin, int direction, boolean under) throws NoSuchElementException {
        need(frame.isOn(bar) && frame.isPin(pin) && isDirection(direction));
        need(bears(frame.on, ride.oneLoad(2 * pin + direction)));
        return toldPull(bar, under);
    }

    public long cut(int set, int bar, boolean under) throws NoSuchElementException {
        need(section.divides(set));
        int which = section.indexOf(bar);
        need(which != NONE);
        return told(section.overOf(which), section.under, under);
    }

    public int joint(int k) {
        joints.follow();
        return k >= 0 && k < joints.done ? joints.order[k] : NONE;
    }

    public int painted(int sign) {
        if (sign < -1 || sign > 2 || !bears(frame.on, frame.loads)) {
            return NONE;
        }
        int set = 0;
        for (int bar = 0; bar < frame.bars; bar++) {
            if (frame.isOn(bar) && isPainted(bar, sign)) {
                set |= 1 << bar;
            }
        }
        return set;
    }

    public int times() {
        if (!bears(frame.on, frame.loads)) {
            return NONE;
        }
        long least = MOST_TIMES;
        for (int bar = 0; bar < frame.bars; bar++) {
            if (frame.isOn(bar)) {
                least = Math.min(least, timesOf(bar));
            }
        }
        return (int) least;
    }

    // ---- trains

    public long riding(int bar, int t, boolean under) throws NoSuchElementException {
        need(frame.isOn(bar) && ride.stands(t));
        need(bears(frame.on, ride.loadsAt(t)));
        return toldPull(bar, under);
    }

    public int worst(int bar) {
        if (!frame.isOn(bar) || !ride.stands(0) || !bears(frame.on, ride.loadsAt(0))) {
            return NONE;
        }
        int worst = NONE;
        long most = -1;
        for (int t = 0; t < MOST_PINS + MOST_WEIGHTS && ride.stands(t); t++) {
            pulls.bear(ride.loadsAt(t));
            // All t share one under, so the overs alone tell which is greater.
            long size = Math.abs(pulls.overOf(bar));
            if (size > most) {
                most = size;
                worst = t;
            }
        }
        return worst;
    }

    // ---- without a bar

    public int without(int bar) {
        if (!frame.isOn(bar)) {
            return NONE;
        }
        balance.settle(frame.on & ~(1 << bar));
        return balance.kindNumber();
    }

    public long left(int bar, int other, boolean under) throws NoSuchElementException {
        need(frame.isOn(bar) && frame.isOn(other) && bar != other);
        need(bears(frame.on & ~(1 << bar), frame.loads));
        return toldPull(other, under);
    }

    public int keys() {
        balance.settle(frame.on);
        return balance.neededBars();
    }

    public int mend(boolean bits) {
        balance.settle(frame.on);
        // A BAR that does not help now helps no later set either, so the first that help are
        // both the fewest and the least.
        balance.extend(((1 << frame.bars) - 1) & ~frame.on);
        if (balance.kindNumber() == LOOSE) {
            return NONE;
        }
        int set = balance.base & ~frame.on;
        return bits ? set : Integer.bitCount(set);
    }

    // ---- what several calls share

    private static void need(boolean there) throws NoSuchElementException {
        if (!there) {
            throw new NoSuchElementException();
        }
    }

    private static boolean isDirection(int direction) {
        return direction == 0 || direction == 1;
    }

    private static boolean isGive(int give) {
        return give >= 1 && give <= MOST_GIVE;
    }

    private static boolean isLoad(int load) {
        return load >= -MOST_LOAD && load <= MOST_LOAD;
    }

    private static boolean has(int set, int number) {
        return (set >> number & 1) == 1;
    }

    /** No caller has a divisor of 0; the test keeps the machine from throwing all the same. */
    private static long quotient(long a, long b) {
        return b == 0 ? 0 : a / b;
    }

    private boolean isFreePlace(int x, int y) {
        boolean onGrid = x >= 0 && x < WIDTH && y >= 0 && y < HEIGHT;
        return onGrid && !frame.hasPinAt(x, y);
    }

    private int countOfBalance(int what) {
        balance.settle(frame.on);
        switch (what) {
            case 3:
                return balance.free;
            case 4:
                return balance.kindNumber();
            case 5:
                return balance.base;
            case 6:
                return balance.spare;
            case 7:
                return balance.free - balance.rank;
            default:
                return NONE;
        }
    }

    /** Whether the frame of these BARS has PULLS that are told; those by the loads stand ready then. */
    private boolean bears(int bars, int[] loads) {
        balance.settle(bars);
        int kind = balance.kindNumber();
        if (kind == LOOSE || kind == MANY_SPARES) {
            return false;
        }
        pulls.prepare();
        pulls.bear(loads);
        return true;
    }

    private long told(long over, long under, boolean wantsUnder) {
        fraction.reduce(over, under);
        return wantsUnder ? fraction.under : fraction.over;
    }

    private long toldPull(int bar, boolean wantsUnder) {
        return told(pulls.overOf(bar), pulls.whole, wantsUnder);
    }

    private boolean isPainted(int bar, int sign) {
        fraction.reduce(pulls.overOf(bar), pulls.whole);
        switch (sign) {
            case 1:
                return fraction.over > 0;
            case -1:
                return fraction.over < 0;
            case 0:
                return fraction.over == 0;
            default:
                return Math.abs(fraction.over) > frame.strength[bar] * fraction.under;
        }
    }

    private long timesOf(int bar) {
        fraction.reduce(pulls.overOf(bar), pulls.whole);
        long roundedUp = quotient(Math.abs(fraction.over) + fraction.under - 1, fraction.under);
        return roundedUp == 0 ? MOST_TIMES : quotient(frame.strength[bar], roundedUp);
    }

    /** What is built: PINS, HOLDS, BARS and LOADS. */
    private static final class Frame {
        int pins;
        int bars;
        int on;
        final int[] spot = new int[SLOTS];
        final int[] loads = new int[SLOTS];
        final boolean[] held = new boolean[SLOTS];
        final int[] one = new int[MOST_BARS];
        final int[] other = new int[MOST_BARS];
        final int[] give = new int[MOST_BARS];
        final int[] strength = new int[MOST_BARS];

        boolean isPin(int pin) {
            return pin >= 0 && pin < pins;
        }

        boolean isBar(int bar) {
            return bar >= 0 && bar < bars;
        }

        boolean isOn(int bar) {
            return isBar(bar) && has(on, bar);
        }

        boolean hasPinAt(int x, int y) {
            for (int pin = 0; pin < pins; pin++) {
                if (spot[2 * pin] == x && spot[2 * pin + 1] == y) {
                    return true;
                }
            }
            return false;
        }

        boolean hasBar(int a, int b) {
            for (int bar = 0; bar < bars; bar++) {
                if (one[bar] == a && other[bar] == b || one[bar] == b && other[bar] == a) {
                    return true;
                }
            }
            return false;
        }

        void put(int pin, int x, int y) {
            spot[2 * pin] = x;
            spot[2 * pin + 1] = y;
        }

        int addBar(int a, int b, int gives) {
            int number = bars;
            one[number] = a;
            other[number] = b;
            give[number] = gives;
            strength[number] = FIRST_STRENGTH;
            on |= 1 << number;
            bars++;
            return number;
        }

        int barsAt(int pin) {
            int set = 0;
            for (int bar = 0; bar < bars; bar++) {
                if (has(on, bar) && (one[bar] == pin || other[bar] == pin)) {
                    set |= 1 << bar;
                }
            }
            return set;
        }

        /** What a PULL of 1 brings to a slot. */
        int brings(int bar, int slot) {
            int pin = slot / 2;
            int direction = slot % 2;
            int along = spot[2 * other[bar] + direction] - spot[2 * one[bar] + direction];
            if (one[bar] == pin) {
                return along;
            }
            return other[bar] == pin ? -along : 0;
        }
    }

    /** The DECK and the TRAIN, and the LOADS that they make. */
    private static final class Ride {
        int pins;
        int weights;
        final int[] pinAt = new int[MOST_PINS];
        final int[] weight = new int[MOST_WEIGHTS];
        final int[] loads = new int[SLOTS];

        int addPin(int pin) {
            if (pins >= MOST_PINS) {
                return NONE;
            }
            for (int i = 0; i < pins; i++) {
                if (pinAt[i] == pin) {
                    return NONE;
                }
            }
            pinAt[pins] = pin;
            pins++;
            return pins;
        }

        int takeWeights(int digits) {
            int many = digitsWithoutZero(digits);
            if (many == NONE) {
                return NONE;
            }
            int rest = digits;
            for (int i = many - 1; i >= 0; i--) {
                weight[i] = rest % 10;
                rest /= 10;
            }
            weights = many;
            return many;
        }

        private static int digitsWithoutZero(int digits) {
            int rest = digits;
            int many = 0;
            for (int i = 0; i < MOST_WEIGHTS && rest > 0; i++) {
                if (rest % 10 == 0) {
                    return NONE;
                }
                rest /= 10;
                many++;
            }
            return rest == 0 && many > 0 ? many : NONE;
        }

        boolean stands(int t) {
            return pins > 0 && weights > 0 && t >= 0 && t <= pins + weights - 2;
        }

        int[] loadsAt(int t) {
            clearLoads();
            for (int i = 0; i < weights; i++) {
                int number = t - i;
                if (number >= 0 && number < pins) {
                    loads[2 * pinAt[number] + 1] = -weight[i];
                }
            }
            return loads;
        }

        int[] oneLoad(int slot) {
            clearLoads();
            loads[slot] = 1;
            return loads;
        }

        private void clearLoads() {
            for (int slot = 0; slot < SLOTS; slot++) {
                loads[slot] = 0;
            }
        }
    }

    /**
     * BALANCE of a frame of some BARS. Rows: directions that are not held; columns: all BARS, then
     * one LOAD of 1 for each row. The rows are cleared without fractions (Bareiss), so that every
     * number stays a minor of the first ones and below 26 to the power 5.5 (Hadamard).
     */
    private static final class Balance {
        final Frame frame;
        final long[][] rows = new long[SLOTS][MOST_BARS + SLOTS];
        final int[] slotOf = new int[SLOTS];
        final int[] baseBar = new int[SLOTS];
        int free;
        int rank;
        int base;
        int spare;
        /** What all cleared rows have at their own BAR of the BASE: its determinant. */
        long scale;

        Balance(Frame frame) {
            this.frame = frame;
        }

        void settle(int bars) {
            findFree();
            for (int row = 0; row < free; row++) {
                layRow(row);
            }
            rank = 0;
            base = 0;
            spare = 0;
            scale = 1;
            extend(bars);
        }

        void extend(int bars) {
            for (int bar = 0; bar < frame.bars; bar++) {
                if (has(bars, bar)) {
                    take(bar);
                }
            }
        }

        int kindNumber() {
            return rank < free ? LOOSE : Math.min(MANY_SPARES, 1 + Integer.bitCount(spare));
        }

        int spareNumber(int bar) {
            return has(spare, bar) ? Integer.bitCount(spare & ((1 << bar) - 1)) : NONE;
        }

        /** BARS of the BASE for which no SPARE one could stand in. */
        int neededBars() {
            int set = 0;
            for (int row = 0; row < rank; row++) {
                if (!meetsSpares(row)) {
                    set |= 1 << baseBar[row];
                }
            }
            return rank < free ? 0 : set;
        }

        private boolean meetsSpares(int row) {
            for (int bar = 0; bar < frame.bars; bar++) {
                if (has(spare, bar) && rows[row][bar] != 0) {
                    return true;
                }
            }
            return false;
        }

        private void findFree() {
            free = 0;
            for (int slot = 0; slot < 2 * frame.pins; slot++) {
                if (!frame.held[slot]) {
                    slotOf[free] = slot;
                    free++;
                }
            }
        }

        private void layRow(int row) {
            for (int bar = 0; bar < frame.bars; bar++) {
                rows[row][bar] = frame.brings(bar, slotOf[row]);
            }
            for (int column = 0; column < free; column++) {
                rows[row][frame.bars + column] = column == row ? 1 : 0;
            }
        }

        private void take(int bar) {
            int row = rank;
            while (row < free && rows[row][bar] == 0) {
                row++;
            }
            if (row == free) {
                spare |= 1 << bar;
                return;
            }
            swap(row, rank);
            clearColumn(bar, rank);
            baseBar[rank] = bar;
            base |= 1 << bar;
            rank++;
        }

        private void swap(int row, int with) {
            for (int column = 0; column < frame.bars + free; column++) {
                long kept = rows[row][column];
                rows[row][column] = rows[with][column];
                rows[with][column] = kept;
            }
        }

        private void clearColumn(int bar, int by) {
            long pivot = rows[by][bar];
            for (int row = 0; row < free; row++) {
                if (row == by) {
                    continue;
                }
                long factor = rows[row][bar];
                for (int column = 0; column < frame.bars + free; column++) {
                    long cleared = pivot * rows[row][column] - factor * rows[by][column];
                    rows[row][column] = quotient(cleared, scale);
                }
            }
            scale = pivot;
        }
    }

    /**
     * PULLS of a settled frame of KIND 1 to 3, as whole numbers. They are the mean of the PULLS
     * that each possible base would bear alone, weighed by the square of its determinant and the
     * GIVES of the BARS outside it (Cauchy and Binet): so every number stays far inside a long,
     * which the numbers of FLEX, multiplied with each other, would not.
     */
    private static final class Pulls {
        final Frame frame;
        final Balance balance;
        /** BARE PULLS and UNIT PULLS, times the scale of the balance. */
        final long[] bare = new long[MOST_BARS];
        final long[][] units = new long[TOLD_SPARES][MOST_BARS];
        /** For two SPARE ones: the determinant of the base without these two BARS. */
        final long[][] pairs = new long[MOST_BARS][MOST_BARS];
        int spares;
        /** The common under of all PULLS. */
        long whole;

        Pulls(Frame frame, Balance balance) {
            this.frame = frame;
            this.balance = balance;
        }

        boolean isSpare(int k) {
            return k >= 0 && k < spares;
        }

        void prepare() {
            spares = 0;
            for (int bar = 0; bar < frame.bars; bar++) {
                if (has(balance.spare, bar) && spares < TOLD_SPARES) {
                    layUnit(spares, bar);
                    spares++;
                }
            }
            if (spares == 0) {
                whole = balance.scale;
            } else if (spares == 1) {
                whole = giving(0, 0);
            } else {
                layPairs();
            }
        }

        void bear(int[] loads) {
            for (int bar = 0; bar < MOST_BARS; bar++) {
                bare[bar] = 0;
            }
            for (int row = 0; row < balance.rank; row++) {
                long brought = 0;
                for (int column = 0; column < balance.free; column++) {
                    brought += balance.rows[row][frame.bars + column] * loads[balance.slotOf[column]];
                }
                bare[balance.baseBar[row]] = -brought;
            }
        }

        /** The k-th UNIT PULL of a BAR, or its BARE PULL (k NONE), times the scale. */
        long stateOf(int k, int bar) {
            return isSpare(k) ? units[k][bar] : bare[bar];
        }

        /** GIVE times both states' PULLS, over all BARS. */
        long giving(int i, int j) {
            long sum = 0;
            for (int bar = 0; bar < frame.bars; bar++) {
                sum += frame.give[bar] * stateOf(i, bar) * stateOf(j, bar);
            }
            return sum;
        }

        /** PULL of a BAR times the whole. */
        long overOf(int bar) {
            if (spares == 0) {
                return bare[bar];
            }
            return spares == 1 ? overWithOne(bar) : overWithTwo(bar);
        }

        private void layUnit(int k, int bar) {
            for (int any = 0; any < MOST_BARS; any++) {
                units[k][any] = 0;
            }
            for (int row = 0; row < balance.rank; row++) {
                units[k][balance.baseBar[row]] = -balance.rows[row][bar];
            }
            units[k][bar] = balance.scale;
        }

        private void layPairs() {
            whole = 0;
            for (int a = 0; a < frame.bars; a++) {
                for (int b = 0; b < frame.bars; b++) {
                    long pair = units[0][a] * units[1][b] - units[0][b] * units[1][a];
                    pairs[a][b] = quotient(pair, balance.scale);
                    if (a < b) {
                        whole += frame.give[a] * frame.give[b] * pairs[a][b] * pairs[a][b];
                    }
                }
            }
        }

        private long overWithOne(int bar) {
            long sum = 0;
            for (int a = 0; a < frame.bars; a++) {
                long brought = bare[bar] * units[0][a] - bare[a] * units[0][bar];
                long alone = quotient(brought, balance.scale);
                sum += frame.give[a] * units[0][a] * alone;
            }
            return sum;
        }

        private long overWithTwo(int bar) {
            long sum = 0;
            for (int a = 0; a < frame.bars; a++) {
                for (int b = a + 1; b < frame.bars; b++) {
                    long brought = bare[bar] * pairs[a][b] - bare[a] * pairs[bar][b] + bare[b] * pairs[bar][a];
                    long alone = quotient(brought, balance.scale);
                    sum += frame.give[a] * frame.give[b] * pairs[a][b] * alone;
                }
            }
            return sum;
        }
    }

    /** JOINTS: which PINS are DONE, in which order, and which BARS are KNOWN behind them. */
    private static final class Joints {
        final Frame frame;
        final int[] order = new int[MOST_PINS];
        int done;
        int known;

        Joints(Frame frame) {
            this.frame = frame;
        }

        void follow() {
            done = 0;
            known = 0;
            boolean goesOn = true;
            for (int step = 0; step < MOST_PINS && goesOn; step++) {
                goesOn = doNext();
            }
        }

        private boolean doNext() {
            for (int pin = 0; pin < frame.pins; pin++) {
                // A PIN that is DONE has no BARS that are not KNOWN, so it can't come twice.
                int unknown = frame.barsAt(pin) & ~known;
                if (determines(pin, unknown) && done < MOST_PINS) {
                    order[done] = pin;
                    done++;
                    known |= unknown;
                    return true;
                }
            }
            return false;
        }

        private boolean determines(int pin, int unknown) {
            boolean freeX = !frame.held[2 * pin];
            boolean freeY = !frame.held[2 * pin + 1];
            switch (Integer.bitCount(unknown)) {
                case 1:
                    return freeX && across(pin, 0, unknown) != 0 || freeY && across(pin, 1, unknown) != 0;
                case 2:
                    return freeX && freeY && turns(pin, unknown);
                default:
                    return false;
            }
        }

        /** What PULLS of 1 of some BARS bring to the PIN in a direction, together. */
        private int across(int pin, int direction, int some) {
            int sum = 0;
            for (int bar = 0; bar < frame.bars; bar++) {
                if (has(some, bar)) {
                    sum += frame.brings(bar, 2 * pin + direction);
                }
            }
            return sum;
        }

        /** Whether two BARS do not lie in one line. */
        private boolean turns(int pin, int two) {
            int second = two & (two - 1);
            int first = two ^ second;
            int one = across(pin, 0, first) * across(pin, 1, second);
            int other = across(pin, 1, first) * across(pin, 0, second);
            return one != other;
        }
    }

    /** A CUT: its three BARS, and what they and the LOADS bring to the set. */
    private static final class Cut {
        final Frame frame;
        final int[] bars = new int[CUT_BARS];
        int many;
        /** Rows: in x, in y, about the corner; columns: the three BARS, then the LOADS. */
        final long[][] sums = new long[CUT_BARS][CUT_BARS + 1];
        long under;

        Cut(Frame frame) {
            this.frame = frame;
        }

        /** Whether the set makes a CUT; it stands here then. */
        boolean divides(int set) {
            if (set <= 0 || set >= (1 << frame.pins) || isHeld(set)) {
                return false;
            }
            findBars(set);
            if (many != CUT_BARS) {
                return false;
            }
            for (int i = 0; i < CUT_BARS; i++) {
                int one = frame.one[bars[i]];
                int inside = has(set, one) ? one : frame.other[bars[i]];
                clear(i);
                add(i, inside, frame.brings(bars[i], 2 * inside), frame.brings(bars[i], 2 * inside + 1));
            }
            addLoads(set);
            under = determinant(0, 1, 2);
            return under != 0;
        }

        int indexOf(int bar) {
            int index = NONE;
            for (int i = 0; i < CUT_BARS; i++) {
                if (bars[i] == bar) {
                    index = i;
                }
            }
            return index;
        }

        /** PULL of one of the three times the under (Cramer). */
        long overOf(int index) {
            int loads = CUT_BARS;
            return -determinant(index == 0 ? loads : 0, index == 1 ? loads : 1, index == 2 ? loads : 2);
        }

        private boolean isHeld(int set) {
            for (int slot = 0; slot < 2 * frame.pins; slot++) {
                if (has(set, slot / 2) && frame.held[slot]) {
                    return true;
                }
            }
            return false;
        }

        private void findBars(int set) {
            many = 0;
            for (int bar = 0; bar < frame.bars; bar++) {
                if (frame.isOn(bar) && has(set, frame.one[bar]) != has(set, frame.other[bar])) {
                    if (many < CUT_BARS) {
                        bars[many] = bar;
                    }
                    many++;
                }
            }
        }

        private void addLoads(int set) {
            clear(CUT_BARS);
            for (int pin = 0; pin < frame.pins; pin++) {
                if (has(set, pin)) {
                    add(CUT_BARS, pin, frame.loads[2 * pin], frame.loads[2 * pin + 1]);
                }
            }
        }

        private void clear(int column) {
            for (int row = 0; row < CUT_BARS; row++) {
                sums[row][column] = 0;
            }
        }

        private void add(int column, int pin, int inX, int inY) {
            sums[0][column] += inX;
            sums[1][column] += inY;
            sums[2][column] += frame.spot[2 * pin] * inY - frame.spot[2 * pin + 1] * inX;
        }

        private long determinant(int a, int b, int c) {
            long first = sums[0][a] * (sums[1][b] * sums[2][c] - sums[1][c] * sums[2][b]);
            long second = sums[0][b] * (sums[1][c] * sums[2][a] - sums[1][a] * sums[2][c]);
            long third = sums[0][c] * (sums[1][a] * sums[2][b] - sums[1][b] * sums[2][a]);
            return first + second + third;
        }
    }

    /** A fraction in least terms, its under above 0. */
    private static final class Fraction {
        long over;
        long under;

        void reduce(long first, long second) {
            long most = greatestDivisor(Math.abs(first), Math.abs(second));
            long divisor = second < 0 ? -most : most;
            over = quotient(first, divisor);
            under = quotient(second, divisor);
        }

        private static long greatestDivisor(long first, long second) {
            long a = first;
            long b = second;
            for (int step = 0; step < EUCLID_STEPS && b != 0; step++) {
                long rest = a % b;
                a = b;
                b = rest;
            }
            return a;
        }
    }
}
