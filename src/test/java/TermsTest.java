import java.util.function.Predicate;

/** The sums that the terms write down, added up from what a frame answers, on frames as crooked and full as can be. */
public final class TermsTest extends Answers {
    private static final int NONE = PinFrame.NONE;

    public static void main(String[] args) {
        System.exit(run() == 0 ? 0 : 1);
    }

    static int run() {
        for (int spares = 0; spares <= 2; spares++) {
            int many = spares;
            term("PULLS: those BARE ones, and each SPARE one's UNIT PULLS times its own PULL,", () -> pulls(rich(many)));
            term("by which it has 1, other SPARE ones 0.", () -> own(rich(many)));
            term("GAP, and FLEX of it and each SPARE one times that one's PULL, make 0.", () -> gaps(rich(many)));
            for (int slot = 0; slot < 12; slot++) {
                int pin = slot / 2;
                int direction = slot % 2;
                term("the LOAD and what all BARS bring make 0.", () -> balance(rich(many), pin, direction));
                if (!isHeld(rich(many), pin, direction)) {
                    term("UNIT PULLS of a SPARE one: those in BALANCE without LOADS", () -> states(rich(many), pin, direction));
                }
            }
        }
        least();
        cuts();
        influences();
        changes();
        return end("TermsTest");
    }

    private static PinFrame rich(int spares) {
        PinFrame f = Frames.rich();
        for (int bar = 10; bar > 8 + spares; bar--) {
            f.turn(bar, false);
        }
        return f;
    }

    // ---- sums

    private static PlainFrame.Fraction part(Parts parts) {
        PlainFrame.Fraction over = PlainFrame.Fraction.of(parts.of(false));
        return over.by(PlainFrame.Fraction.of(parts.of(true)));
    }

    private static PlainFrame.Fraction times(long whole, PlainFrame.Fraction fraction) {
        return fraction.times(PlainFrame.Fraction.of(whole));
    }

    private static void zero(String call, PlainFrame.Fraction sum) {
        due(call, sum.over() + "/" + sum.under(), "0/1");
    }

    private static PlainFrame.Fraction pull(PinFrame f, int bar) {
        return part(u -> f.pull(bar, u));
    }

    private static PlainFrame.Fraction state(PinFrame f, int k, int bar) {
        return part(u -> f.state(k, bar, u));
    }

    private static long brings(PinFrame f, int bar, int pin, int direction) {
        int one = f.at(bar, 0);
        int other = f.at(bar, 1);
        if (one != pin && other != pin) {
            return 0;
        }
        return f.of(one == pin ? other : one, direction) - f.of(pin, direction);
    }

    private static boolean isHeld(PinFrame f, int pin, int direction) {
        return (f.of(pin, 4) >> direction & 1) == 1;
    }

    private static int barsOn(PinFrame f) {
        return Integer.bitCount(f.count(2));
    }

    // ---- the terms

    private static void pulls(PinFrame f) {
        int spares = f.count(4) - 1;
        for (int bar = 0; bar < barsOn(f); bar++) {
            PlainFrame.Fraction sum = pull(f, bar).negative().plus(state(f, NONE, bar));
            for (int k = 0; k < spares; k++) {
                sum = sum.plus(state(f, k, bar).times(pull(f, 9 + k)));
            }
            zero("BARE and UNIT PULLS of " + bar, sum);
        }
    }

    private static void balance(PinFrame f, int pin, int direction) {
        PlainFrame.Fraction sum = PlainFrame.Fraction.of(f.of(pin, 2 + direction));
        for (int bar = 0; bar < barsOn(f); bar++) {
            sum = sum.plus(times(brings(f, bar, pin, direction), pull(f, bar)));
        }
        zero("PIN " + pin + ", " + direction, isHeld(f, pin, direction) ? sum.plus(part(u -> f.force(pin, direction, u))) : sum);
    }

    private static void own(PinFrame f) {
        int spares = f.count(4) - 1;
        due("SPARE ones", f.count(6), 3 << 9 & (1 << 9 + spares) - 1);
        for (int k = NONE; k < spares; k++) {
            for (int other = 0; other < spares; other++) {
                PlainFrame.Fraction own = state(f, k, 9 + other);
                zero("PULL of a SPARE one", k == other ? own.plus(PlainFrame.Fraction.of(-1)) : own);
            }
        }
    }

    private static void states(PinFrame f, int pin, int direction) {
        for (int k = NONE; k < f.count(4) - 1; k++) {
            PlainFrame.Fraction sum = PlainFrame.Fraction.of(k == NONE ? f.of(pin, 2 + direction) : 0);
            for (int bar = 0; bar < barsOn(f); bar++) {
                sum = sum.plus(times(brings(f, bar, pin, direction), state(f, k, bar)));
            }
            zero("state " + k + " at " + pin + ", " + direction, sum);
        }
    }

    private static void gaps(PinFrame f) {
        int spares = f.count(4) - 1;
        due("GAPS to close", spares, Integer.bitCount(f.count(6)));
        for (int i = 0; i < spares; i++) {
            PlainFrame.Fraction closes = gap(f, i);
            for (int j = NONE; j < spares; j++) {
                PlainFrame.Fraction sum = j == NONE ? gap(f, i).negative() : flex(f, i, j).negative();
                for (int bar = 0; bar < barsOn(f); bar++) {
                    sum = sum.plus(times(f.at(bar, 2), state(f, i, bar).times(state(f, j, bar))));
                }
                zero("GIVE over all BARS, " + i + " and " + j, sum);
                closes = j == NONE ? closes : closes.plus(flex(f, i, j).times(pull(f, 9 + j)));
            }
            zero("what " + i + " must close", closes);
        }
    }

    private static PlainFrame.Fraction gap(PinFrame f, int i) {
        return part(u -> f.flex(i, NONE, u));
    }

    private static PlainFrame.Fraction flex(PinFrame f, int i, int j) {
        return part(u -> f.flex(i, j, u));
    }

    private static void least() {
        term("those for which GIVE times the square of PULL, over all BARS, is least.)", () -> {
            PlainFrame.Fraction none = PlainFrame.Fraction.ZERO;
            PlainFrame.Fraction some = PlainFrame.Fraction.ONE.by(PlainFrame.Fraction.of(1000));
            PlainFrame.Fraction best = squares(none, none);
            for (int way = 0; way < 9; way++) {
                PlainFrame.Fraction one = times(way / 3 - 1, some);
                PlainFrame.Fraction other = times(way % 3 - 1, some);
                due("a little off " + way, squares(one, other).compare(best) > 0, way != 4);
            }
        });
    }

    /** GIVE times the square of PULL, over all BARS, if the SPARE ones bore so much more than they do. */
    private static PlainFrame.Fraction squares(PlainFrame.Fraction one, PlainFrame.Fraction other) {
        PinFrame f = Frames.rich();
        PlainFrame.Fraction sum = PlainFrame.Fraction.ZERO;
        for (int bar = 0; bar < 11; bar++) {
            PlainFrame.Fraction off = state(f, 0, bar).times(one).plus(state(f, 1, bar).times(other));
            PlainFrame.Fraction pull = pull(f, bar).plus(off);
            sum = sum.plus(times(f.at(bar, 2), pull.times(pull)));
        }
        return sum;
    }

    /** PINS 0, 1, 2 hang on PINS 3, 4, 5 by three BARS that lie crooked; what these bring must be LOADS turned round. */
    private static PinFrame crooked(int... places) {
        PinFrame f = new PinFrame();
        for (int pin = 0; pin < 6; pin++) {
            f.pin(places[2 * pin], places[2 * pin + 1]);
            f.load(pin, 4 - 3 * pin, 5 * pin - 3);
        }
        f.bar(0, 3, 1);
        f.bar(4, 1, 1);
        f.bar(2, 5, 1);
        return f;
    }

    private static void cuts() {
        term("their PULLS are those by which these three sums, with those of the LOADS, are 0.", () -> {
            cutSums(crooked(0, 2, 1, 1, 3, 2, 2, 0, 0, 0, 3, 0));
            cutSums(crooked(3, 2, 1, 1, 0, 1, 2, 1, 2, 0, 1, 0));
            cutSums(crooked(1, 2, 3, 0, 0, 0, 2, 2, 2, 1, 3, 2));
        });
        term("CUT: a set of PINS, not held at all", () -> {
            for (int slot = 0; slot < 12; slot++) {
                PinFrame f = crooked(0, 2, 1, 1, 3, 2, 2, 0, 0, 0, 3, 0);
                f.hold(slot / 2, slot % 2, true);
                int held = slot / 2;
                int set = held < 3 ? 56 : 7;
                due("held beside it", f.cut(set, 1, true) > 0, true);
                none("held in it", u -> f.cut(63 - set, 1, u));
            }
        });
        term("x times what is brought in y less y times what is brought in x, over PINS of the set", () -> {
            PinFrame f = crooked(0, 2, 1, 1, 3, 2, 2, 0, 0, 0, 3, 0);
            f.unload();
            for (int slot = 0; slot < 6; slot++) {
                f.load(slot / 2, slot % 2 == 0 ? 1 : 0, slot % 2);
                cutSums(f);
                f.load(slot / 2, 0, 0);
            }
        });
    }

    private static void cutSums(PinFrame f) {
        PlainFrame.Fraction[] sums = {PlainFrame.Fraction.ZERO, PlainFrame.Fraction.ZERO, PlainFrame.Fraction.ZERO};
        for (int pin = 0; pin < 3; pin++) {
            int x = f.of(pin, 0);
            int y = f.of(pin, 1);
            int bar = pin;
            PlainFrame.Fraction pull = part(u -> f.cut(7, bar, u));
            PlainFrame.Fraction inX = times(brings(f, bar, pin, 0), pull).plus(PlainFrame.Fraction.of(f.of(pin, 2)));
            PlainFrame.Fraction inY = times(brings(f, bar, pin, 1), pull).plus(PlainFrame.Fraction.of(f.of(pin, 3)));
            sums[0] = sums[0].plus(inX);
            sums[1] = sums[1].plus(inY);
            sums[2] = sums[2].plus(times(x, inY)).plus(times(-y, inX));
        }
        zero("in x", sums[0]);
        zero("in y", sums[1]);
        zero("about the corner", sums[2]);
    }

    private static void influences() {
        term("INFLUENCE of a PIN and a direction on a BAR: its PULL, were there one LOAD alone, 1 there", () -> {
            PinFrame f = Frames.rich();
            for (int bar = 0; bar < 11; bar++) {
                PlainFrame.Fraction sum = pull(f, bar).negative();
                for (int slot = 0; slot < 12; slot++) {
                    int on = bar;
                    int pin = slot / 2;
                    int direction = slot % 2;
                    sum = sum.plus(times(f.of(pin, 2 + direction), part(u -> f.influence(on, pin, direction, u))));
                }
                zero("all LOADS on " + bar, sum);
            }
        });
        term("no other LOADS.", () -> {
            PinFrame f = Frames.rich();
            f.deck(4);
            f.deck(3);
            f.train(38);
            for (int bar = 0; bar < 11; bar++) {
                int on = bar;
                PlainFrame.Fraction sum = part(u -> f.riding(on, 1, u));
                sum = sum.plus(times(3, part(u -> f.influence(on, 3, 1, u))));
                sum = sum.plus(times(8, part(u -> f.influence(on, 4, 1, u))));
                zero("two weights on " + bar, sum);
            }
            due("asked in x at PIN 0", f.influence(3, 1, 1, true) > 0 && f.influence(3, 0, 0, false) == 0, true);
        });
    }

    // ---- what was asked before does not count

    private static void changes() {
        term("were there one LOAD alone", () -> {
            PinFrame f = Frames.fan(2);
            f.deck(1);
            f.train(5);
            fraction("1 in x at PIN 0", u -> f.influence(0, 0, 0, u), 1, 5);
            fraction("then a TRAIN alone", u -> f.riding(0, 0, u), 0, 1);
            fraction("1 in x at PIN 0", u -> f.influence(0, 0, 0, u), 1, 5);
            fraction("then 1 elsewhere", u -> f.influence(0, 5, 1, u), 0, 1);
            due("no PULL at any t", f.worst(0), 0);
        });
        term("BARE PULLS: those in BALANCE with the LOADS by which all SPARE ones have 0.", () -> {
            PinFrame f = Frames.stiffer();
            f.load(1, 5, 0);
            f.hold(1, 0, false);
            fraction("of the BASE", u -> f.state(NONE, 0, u), 5, 2);
            f.hold(1, 0, true);
            fraction("SPARE then", u -> f.state(NONE, 0, u), 0, 1);
            fraction("a BAR of no LOADS", u -> f.pull(0, u), 0, 1);
        });
        say(27, "KIND, were a BAR OUT.", () -> {
            PinFrame f = Frames.loose();
            due("without", f.without(0), 0);
            due("mend", f.mend(true), 16);
            f.turn(4, true);
            due("without", f.without(4), 0);
            due("mend", f.mend(true), 0);
            due("without", f.without(4), 0);
            due("keys", f.keys(), 31);
            due("without", f.without(4), 0);
            due("at", f.at(3, 5), NONE);
            due("without", f.without(4), 0);
            due("KIND", f.count(4), 1);
        });
        term("a PIN is held in x (direction 0), or in y (1), or both, or neither (at first).", () -> {
            likeUnasked("no LOADS", f -> f.unload() == 11);
            likeUnasked("held one more", f -> f.hold(4, 0, true));
            likeUnasked("held in one instead of another", f -> hold(f, 0, 1, 0, 0));
            likeUnasked("let go and held again", f -> hold(f, 5, 0, 5, 0));
        });
        say(3, "A PIN goes to another place: true.", () -> likeUnasked("gone", f -> f.place(1, 0, 1)));
        say(5, "A BAR is OUT, or (on) ON again: true.", () -> {
            likeUnasked("another ON", f -> f.turn(9, true));
            likeUnasked("another instead of one", f -> f.turn(9, true) && f.turn(7, false));
        });
        say(6, "GIVE of a BAR, or (strength) STRENGTH is another number: true.", () -> {
            likeUnasked("gives less", f -> f.turn(9, true) && f.alter(3, false, 1));
        });
        say(8, "LOADS at a PIN are these: true.", () -> likeUnasked("loaded", f -> f.load(4, -8, 5)));
    }

    private static boolean hold(PinFrame f, int pin, int direction, int otherPin, int other) {
        return f.hold(pin, direction, true) && f.hold(otherPin, other, false);
    }

    /** A change on an object that was asked everything before, and on one that was not. */
    private static void likeUnasked(String call, Predicate<PinFrame> change) {
        PinFrame f = rich(0);
        PinFrame g = rich(0);
        Frames.state(g);
        due(call + " (changes)", change.test(f) && change.test(g), true);
        likeAll(call, g, f);
    }

    private static void likeAll(String call, PinFrame got, PinFrame want) {
        due(call, Frames.state(got), Frames.state(want));
        due(call + ": KIND", want.count(4) == 1 || want.count(4) == 2, true);
        for (int bar = 0; bar < 9; bar++) {
            if (want.at(bar, 4) == 1) {
                int on = bar;
                fraction(call + ": pull " + bar, u -> got.pull(on, u), want.pull(on, false), want.pull(on, true));
            }
        }
    }
}
