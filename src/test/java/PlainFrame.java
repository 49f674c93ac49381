import java.math.BigInteger;
import java.util.ArrayList;
import java.util.HashMap;
import java.util.List;
import java.util.Map;
import java.util.NoSuchElementException;

/**
 * The document's terms written down once more, word by word and slowly: fractions of BigIntegers,
 * systems solved by Gauss, sets tried one by one. ModelTest compares PinFrame with it.
 */
final class PlainFrame {
    static final int NONE = -1;

    record Fraction(BigInteger over, BigInteger under) {
        static final Fraction ZERO = of(0);
        static final Fraction ONE = of(1);

        static Fraction of(long whole) {
            return new Fraction(BigInteger.valueOf(whole), BigInteger.ONE);
        }

        private static Fraction reduced(BigInteger over, BigInteger under) {
            BigInteger divisor = over.gcd(under);
            if (under.signum() < 0) {
                divisor = divisor.negate();
            }
            return new Fraction(over.divide(divisor), under.divide(divisor));
        }

        Fraction plus(Fraction b) {
            return reduced(over.multiply(b.under).add(b.over.multiply(under)), under.multiply(b.under));
        }

        Fraction times(Fraction b) {
            return reduced(over.multiply(b.over), under.multiply(b.under));
        }

        Fraction negative() {
            return new Fraction(over.negate(), under);
        }

        Fraction by(Fraction b) {
            return reduced(over.multiply(b.under), under.multiply(b.over));
        }

        Fraction size() {
            return new Fraction(over.abs(), under);
        }

        boolean isZero() {
            return over.signum() == 0;
        }

        int compare(Fraction b) {
            return over.multiply(b.under).compareTo(b.over.multiply(under));
        }
    }

    private record Pin(int x, int y) {
    }

    private static final class Bar {
        final int one;
        final int other;
        int give;
        int strength = 99;
        boolean on = true;

        Bar(int one, int other, int give) {
            this.one = one;
            this.other = other;
            this.give = give;
        }
    }

    private final List<Pin> pins = new ArrayList<>();
    private final List<Bar> bars = new ArrayList<>();
    private final boolean[][] held = new boolean[6][2];
    private final int[][] loads = new int[6][2];
    private final List<Integer> deckPins = new ArrayList<>();
    private List<Integer> weights = new ArrayList<>();
    /** Found since the last change: without these a run takes too long. */
    private final Map<Integer, Integer> basesFound = new HashMap<>();
    private final Map<Integer, Fraction[]> unitsFound = new HashMap<>();

    // ---- what is built

    int pin(int x, int y) {
        changed();
        if (pins.size() == 6 || !isPlace(x, y) || pins.contains(new Pin(x, y))) {
            return NONE;
        }
        pins.add(new Pin(x, y));
        return pins.size() - 1;
    }

    boolean place(int pin, int x, int y) {
        changed();
        if (!isPin(pin) || !isPlace(x, y) || pins.contains(new Pin(x, y))) {
            return false;
        }
        pins.set(pin, new Pin(x, y));
        return true;
    }

    int bar(int one, int other, int give) {
        changed();
        if (bars.size() == 11 || !isPin(one) || !isPin(other) || give < 1 || give > 3 || one == other) {
            return NONE;
        }
        for (Bar b : bars) {
            if (b.one == one && b.other == other || b.one == other && b.other == one) {
                return NONE;
            }
        }
        bars.add(new Bar(one, other, give));
        return bars.size() - 1;
    }

    boolean turn(int bar, boolean on) {
        if (!isBar(bar) || bars.get(bar).on == on) {
            return false;
        }
        bars.get(bar).on = on;
        return true;
    }

    boolean alter(int bar, boolean strength, int v) {
        if (!isBar(bar) || v < 1 || v > (strength ? 999 : 3)) {
            return false;
        }
        Bar b = bars.get(bar);
        if ((strength ? b.strength : b.give) == v) {
            return false;
        }
        if (strength) {
            b.strength = v;
        } else {
            b.give = v;
        }
        return true;
    }

    boolean hold(int pin, int direction, boolean hold) {
        changed();
        if (!isPin(pin) || direction < 0 || direction > 1 || held[pin][direction] == hold) {
            return false;
        }
        held[pin][direction] = hold;
        return true;
    }

    boolean load(int pin, int inX, int inY) {
        if (!isPin(pin) || inX < -9 || inX > 9 || inY < -9 || inY > 9) {
            return false;
        }
        loads[pin] = new int[] {inX, inY};
        return true;
    }

    int unload() {
        int were = 0;
        for (int[] load : loads) {
            for (int d = 0; d < 2; d++) {
                were += load[d] == 0 ? 0 : 1;
                load[d] = 0;
            }
        }
        return were;
    }

    int deck(int pin) {
        if (!isPin(pin) || deckPins.contains(pin)) {
            return NONE;
        }
        deckPins.add(pin);
        return deckPins.size();
    }

    int strip() {
        int had = deckPins.size();
        deckPins.clear();
        return had;
    }

    int train(int digits) {
        String text = Integer.toString(digits);
        if (!text.matches("[1-9]{1,4}")) {
            return NONE;
        }
        weights = new ArrayList<>();
        for (char c : text.toCharArray()) {
            weights.add(c - '0');
        }
        return weights.size();
    }

    int count(int what) {
        return switch (what) {
            case 0 -> pins.size();
            case 1 -> bars.size();
            case 2 -> onBars();
            case 3 -> free();
            case 4 -> kind(onBars());
            case 5 -> base(onBars());
            case 6 -> onBars() & ~base(onBars());
            case 7 -> free() - Integer.bitCount(base(onBars()));
            case 8 -> deckPins.size();
            case 9 -> weights.size();
            case 10 -> known();
            default -> NONE;
        };
    }

    int of(int pin, int what) {
        need(isPin(pin) && what >= 0 && what <= 5);
        return switch (what) {
            case 0 -> pins.get(pin).x();
            case 1 -> pins.get(pin).y();
            case 2 -> loads[pin][0];
            case 3 -> loads[pin][1];
            case 4 -> (held[pin][0] ? 1 : 0) | (held[pin][1] ? 2 : 0);
            default -> barsAt(pin);
        };
    }

    int at(int bar, int what) {
        need(isBar(bar) && what >= 0 && what <= 5);
        Bar b = bars.get(bar);
        return switch (what) {
            case 0 -> b.one;
            case 1 -> b.other;
            case 2 -> b.give;
            case 3 -> b.strength;
            case 4 -> b.on ? 1 : 0;
            default -> spares(onBars()).indexOf(bar);
        };
    }

    // ---- what bars bear

    long pull(int bar, boolean under) {
        need(isOn(bar) && isTold(onBars()));
        return tell(pulls(onBars(), loads)[bar], under);
    }

    long state(int k, int bar, boolean under) {
        need(isOn(bar) && isTold(onBars()) && (k == NONE || isSpare(k)));
        return tell((k == NONE ? barePulls() : unitPulls(k))[bar], under);
    }

    long flex(int i, int j, boolean under) {
        need(isTold(onBars()) && isSpare(i) && (j == NONE || isSpare(j)));
        return tell(giving(unitPulls(i), j == NONE ? barePulls() : unitPulls(j)), under);
    }

    long force(int pin, int direction, boolean under) {
        need(isPin(pin) && (direction == 0 || direction == 1));
        need(held[pin][direction] && isTold(onBars()));
        Fraction[] pulls = pulls(onBars(), loads);
        Fraction sum = Fraction.of(loads[pin][direction]);
        for (int b : listed(onBars())) {
            sum = sum.plus(pulls[b].times(Fraction.of(brings(b, pin, direction))));
        }
        return tell(sum.negative(), under);
    }

    long influence(int bar, int pin, int direction, boolean under) {
        need(isOn(bar) && isTold(onBars()) && isPin(pin) && (direction == 0 || direction == 1));
        int[][] one = new int[6][2];
        one[pin][direction] = held[pin][direction] ? 0 : 1;
        return tell(pulls(onBars(), one)[bar], under);
    }

    long cut(int set, int bar, boolean under) {
        need(set > 0 && set < (1 << pins.size()));
        for (int pin : listed(set)) {
            need(!held[pin][0] && !held[pin][1]);
        }
        List<Integer> three = new ArrayList<>();
        for (int b : listed(onBars())) {
            if ((set >> bars.get(b).one & 1) != (set >> bars.get(b).other & 1)) {
                three.add(b);
            }
        }
        need(three.size() == 3);
        Fraction[][] rows = new Fraction[3][4];
        for (int column = 0; column < 4; column++) {
            long inX = 0;
            long inY = 0;
            long about = 0;
            for (int pin : listed(set)) {
                long x = column == 3 ? loads[pin][0] : brings(three.get(column), pin, 0);
                long y = column == 3 ? loads[pin][1] : brings(three.get(column), pin, 1);
                inX += x;
                inY += y;
                about += pins.get(pin).x() * y - pins.get(pin).y() * x;
            }
            rows[0][column] = Fraction.of(column == 3 ? -inX : inX);
            rows[1][column] = Fraction.of(column == 3 ? -inY : inY);
            rows[2][column] = Fraction.of(column == 3 ? -about : about);
        }
        Fraction[] found = solve(rows, 3);
        need(found != null && three.contains(bar));
        return tell(found[three.indexOf(bar)], under);
    }

    int joint(int k) {
        List<Integer> done = done();
        return k >= 0 && k < done.size() ? done.get(k) : NONE;
    }

    int painted(int sign) {
        if (sign < -1 || sign > 2 || !isTold(onBars())) {
            return NONE;
        }
        int set = 0;
        Fraction[] pulls = pulls(onBars(), loads);
        for (int b : listed(onBars())) {
            boolean breaks = pulls[b].size().compare(Fraction.of(bars.get(b).strength)) > 0;
            if (sign == 2 ? breaks : pulls[b].over().signum() == sign) {
                set |= 1 << b;
            }
        }
        return set;
    }

    int times() {
        if (!isTold(onBars())) {
            return NONE;
        }
        Fraction[] pulls = pulls(onBars(), loads);
        int often = 0;
        while (often < 999 && bearTimes(pulls, often + 1)) {
            often++;
        }
        return often;
    }

    private boolean bearTimes(Fraction[] pulls, int often) {
        for (int b : listed(onBars())) {
            BigInteger[] parts = pulls[b].over().abs().divideAndRemainder(pulls[b].under());
            long up = parts[0].longValueExact() + (parts[1].signum() > 0 ? 1 : 0);
            if (up * often > bars.get(b).strength) {
                return false;
            }
        }
        return true;
    }

    // ---- trains

    long riding(int bar, int t, boolean under) {
        need(isOn(bar) && isTold(onBars()) && rides() && t >= 0 && t <= deckPins.size() + weights.size() - 2);
        return tell(pulls(onBars(), trainAt(t))[bar], under);
    }

    int worst(int bar) {
        if (!isOn(bar) || !isTold(onBars()) || !rides()) {
            return NONE;
        }
        int worst = 0;
        for (int t = 1; t <= deckPins.size() + weights.size() - 2; t++) {
            Fraction most = pulls(onBars(), trainAt(worst))[bar].size();
            if (pulls(onBars(), trainAt(t))[bar].size().compare(most) > 0) {
                worst = t;
            }
        }
        return worst;
    }

    private boolean rides() {
        return !deckPins.isEmpty() && !weights.isEmpty();
    }

    private int[][] trainAt(int t) {
        int[][] made = new int[6][2];
        for (int w = 0; w < weights.size(); w++) {
            if (t - w >= 0 && t - w < deckPins.size()) {
                made[deckPins.get(t - w)][1] = -weights.get(w);
            }
        }
        return made;
    }

    // ---- without a bar

    int without(int bar) {
        return isOn(bar) ? kind(onBars() & ~(1 << bar)) : NONE;
    }

    long left(int bar, int other, boolean under) {
        need(isOn(bar) && isOn(other) && bar != other);
        int rest = onBars() & ~(1 << bar);
        need(isTold(rest));
        return tell(pulls(rest, loads)[other], under);
    }

    int keys() {
        int set = 0;
        for (int b : listed(onBars())) {
            if (kind(onBars()) != 0 && without(b) == 0) {
                set |= 1 << b;
            }
        }
        return set;
    }

    int mend(boolean bits) {
        int best = NONE;
        int all = (1 << bars.size()) - 1;
        for (int set = 0; set <= all; set++) {
            boolean fewer = best == NONE || Integer.bitCount(set) < Integer.bitCount(best);
            if ((set & onBars()) == 0 && fewer && kind(onBars() | set) != 0) {
                best = set;
            }
        }
        return best == NONE || bits ? best : Integer.bitCount(best);
    }

    // ---- the terms

    private static void need(boolean there) {
        if (!there) {
            throw new NoSuchElementException();
        }
    }

    private static long tell(Fraction f, boolean under) {
        return (under ? f.under() : f.over()).longValueExact();
    }

    private static boolean isPlace(int x, int y) {
        return x >= 0 && x <= 3 && y >= 0 && y <= 2;
    }

    private boolean isPin(int pin) {
        return pin >= 0 && pin < pins.size();
    }

    private boolean isBar(int bar) {
        return bar >= 0 && bar < bars.size();
    }

    private boolean isOn(int bar) {
        return isBar(bar) && bars.get(bar).on;
    }

    private static List<Integer> listed(int set) {
        List<Integer> list = new ArrayList<>();
        for (int i = 0; i < 31; i++) {
            if ((set >> i & 1) == 1) {
                list.add(i);
            }
        }
        return list;
    }

    private int onBars() {
        int set = 0;
        for (int b = 0; b < bars.size(); b++) {
            set |= bars.get(b).on ? 1 << b : 0;
        }
        return set;
    }

    private int barsAt(int pin) {
        int set = 0;
        for (int b : listed(onBars())) {
            set |= bars.get(b).one == pin || bars.get(b).other == pin ? 1 << b : 0;
        }
        return set;
    }

    private long brings(int bar, int pin, int direction) {
        Bar b = bars.get(bar);
        if (pin != b.one && pin != b.other) {
            return 0;
        }
        Pin here = pins.get(pin);
        Pin there = pins.get(pin == b.one ? b.other : b.one);
        return direction == 0 ? there.x() - here.x() : there.y() - here.y();
    }

    private List<int[]> freeDirections() {
        List<int[]> list = new ArrayList<>();
        for (int pin = 0; pin < pins.size(); pin++) {
            for (int d = 0; d < 2; d++) {
                if (!held[pin][d]) {
                    list.add(new int[] {pin, d});
                }
            }
        }
        return list;
    }

    private int free() {
        return freeDirections().size();
    }

    private boolean independent(int set, List<int[]> directions) {
        List<Integer> some = listed(set);
        Fraction[][] rows = new Fraction[directions.size()][some.size() + 1];
        for (int r = 0; r < rows.length; r++) {
            for (int c = 0; c < some.size(); c++) {
                rows[r][c] = Fraction.of(brings(some.get(c), directions.get(r)[0], directions.get(r)[1]));
            }
            rows[r][some.size()] = Fraction.ZERO;
        }
        return solve(rows, some.size()) != null;
    }

    private void changed() {
        basesFound.clear();
        unitsFound.clear();
    }

    private int base(int set) {
        return basesFound.computeIfAbsent(set, this::findBase);
    }

    private int findBase(int set) {
        int base = 0;
        for (int b : listed(set)) {
            if (independent(base | 1 << b, freeDirections())) {
                base |= 1 << b;
            }
        }
        return base;
    }

    private List<Integer> spares(int set) {
        return listed(set & ~base(set));
    }

    private int kind(int set) {
        if (Integer.bitCount(base(set)) < free()) {
            return 0;
        }
        return Math.min(4, 1 + spares(set).size());
    }

    private boolean isTold(int set) {
        return kind(set) >= 1 && kind(set) <= 3;
    }

    private boolean isSpare(int k) {
        return k >= 0 && k < spares(onBars()).size();
    }

    /** PULLS of a set in BALANCE with LOADS, these SPARE ones given. */
    private Fraction[] balanced(int set, int[][] with, Fraction[] given) {
        List<Integer> base = listed(base(set));
        List<int[]> directions = freeDirections();
        Fraction[][] rows = new Fraction[directions.size()][base.size() + 1];
        for (int r = 0; r < rows.length; r++) {
            int pin = directions.get(r)[0];
            int d = directions.get(r)[1];
            for (int c = 0; c < base.size(); c++) {
                rows[r][c] = Fraction.of(brings(base.get(c), pin, d));
            }
            Fraction rest = Fraction.of(with[pin][d]);
            for (int s : spares(set)) {
                rest = rest.plus(given[s].times(Fraction.of(brings(s, pin, d))));
            }
            rows[r][base.size()] = rest.negative();
        }
        Fraction[] found = solve(rows, base.size());
        Fraction[] all = given.clone();
        for (int c = 0; c < base.size(); c++) {
            all[base.get(c)] = found[c];
        }
        return all;
    }

    private static Fraction[] zeros() {
        Fraction[] zeros = new Fraction[11];
        java.util.Arrays.fill(zeros, Fraction.ZERO);
        return zeros;
    }

    private Fraction[] barePulls() {
        return balanced(onBars(), loads, zeros());
    }

    private Fraction[] unitPulls(int k) {
        return unitPulls(onBars(), k);
    }

    private Fraction[] unitPulls(int set, int k) {
        Fraction[] found = unitsFound.get(set << 4 | k);
        if (found == null) {
            found = findUnitPulls(set, k);
            unitsFound.put(set << 4 | k, found);
        }
        return found;
    }

    private Fraction[] findUnitPulls(int set, int k) {
        Fraction[] given = zeros();
        given[spares(set).get(k)] = Fraction.ONE;
        return balanced(set, new int[6][2], given);
    }

    private Fraction giving(Fraction[] a, Fraction[] b) {
        Fraction sum = Fraction.ZERO;
        for (int i = 0; i < bars.size(); i++) {
            sum = sum.plus(Fraction.of(bars.get(i).give).times(a[i]).times(b[i]));
        }
        return sum;
    }

    private Fraction[] pulls(int set, int[][] with) {
        List<Integer> spares = spares(set);
        Fraction[] bare = balanced(set, with, zeros());
        Fraction[][] rows = new Fraction[spares.size()][spares.size() + 1];
        for (int i = 0; i < spares.size(); i++) {
            for (int j = 0; j < spares.size(); j++) {
                rows[i][j] = giving(unitPulls(set, i), unitPulls(set, j));
            }
            rows[i][spares.size()] = giving(unitPulls(set, i), bare).negative();
        }
        Fraction[] own = solve(rows, spares.size());
        Fraction[] given = zeros();
        for (int i = 0; i < spares.size(); i++) {
            given[spares.get(i)] = own[i];
        }
        return balanced(set, with, given);
    }

    private List<Integer> done() {
        List<Integer> done = new ArrayList<>();
        int known = 0;
        boolean goesOn = true;
        while (goesOn) {
            goesOn = false;
            for (int pin = 0; pin < pins.size() && !goesOn; pin++) {
                int unknown = barsAt(pin) & ~known;
                int many = Integer.bitCount(unknown);
                if (!done.contains(pin) && (many == 1 || many == 2) && independent(unknown, freeAt(pin))) {
                    done.add(pin);
                    known |= unknown;
                    goesOn = true;
                }
            }
        }
        return done;
    }

    private int known() {
        int known = 0;
        for (int pin : done()) {
            known |= barsAt(pin);
        }
        return known;
    }

    private List<int[]> freeAt(int pin) {
        List<int[]> list = new ArrayList<>();
        for (int[] direction : freeDirections()) {
            if (direction[0] == pin) {
                list.add(direction);
            }
        }
        return list;
    }

    /** The one solution of rows of many unknowns and a right side; null if there is not just one. */
    private static Fraction[] solve(Fraction[][] rows, int many) {
        for (int c = 0; c < many; c++) {
            int pivot = c;
            while (pivot < rows.length && rows[pivot][c].isZero()) {
                pivot++;
            }
            if (pivot >= rows.length) {
                return null;
            }
            Fraction[] kept = rows[pivot];
            rows[pivot] = rows[c];
            rows[c] = kept;
            for (int r = 0; r < rows.length; r++) {
                Fraction factor = rows[r][c].by(rows[c][c]).negative();
                for (int i = 0; r != c && i <= many; i++) {
                    rows[r][i] = rows[r][i].plus(factor.times(rows[c][i]));
                }
            }
        }
        Fraction[] found = new Fraction[many];
        for (int c = 0; c < many; c++) {
            found[c] = rows[c][many].by(rows[c][c]);
        }
        for (int r = many; r < rows.length; r++) {
            if (!rows[r][many].isZero()) {
                return null;
            }
        }
        return found;
    }
}
