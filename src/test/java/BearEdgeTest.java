/** Promises 16 to 20, 23 and 24 and the terms behind them: each sentence that names a boundary case. */
public final class BearEdgeTest extends Answers {
    private static final int NONE = PinFrame.NONE;

    public static void main(String[] args) {
        System.exit(run() == 0 ? 0 : 1);
    }

    static int run() {
        outOnes();
        balance();
        bases();
        kinds();
        fractions();
        pulls();
        states();
        flexes();
        forces();
        influences();
        paints();
        breaks();
        times();
        return end("BearEdgeTest");
    }

    // ---- the terms

    private static void outOnes() {
        term("OUT ones count for nothing.", () -> {
            PinFrame f = Frames.square();
            f.turn(5, false);
            due("KIND", f.count(4), 1);
            due("BASE", f.count(5), 31);
            due("SPARE", f.count(6), 0);
            due("BARS at PIN 1", f.of(1, 5), 3);
            fraction("others bear all", u -> f.pull(4, u), 3, 1);
            due("JOINTS", f.joint(0), 3);
            fraction("no fourth BAR in a CUT", u -> f.cut(12, 4, u), 3, 1);
            due("painted 0", f.painted(0), 13);
            due("keys", f.keys(), 31);
        });
        term("OUT ones count for nothing.", () -> {
            PinFrame f = Frames.fan(2);
            f.load(0, 5, 0);
            f.alter(1, true, 1);
            due("it breaks", f.painted(2), 2);
            due("it can't bear once", f.times(), 0);
            f.turn(1, false);
            due("OUT it does not break", f.painted(2), 0);
            due("99 of 5", f.times(), 19);
            fraction("nothing where it was held", u -> f.force(2, 0, u), 0, 1);
            fraction("the other one's", u -> f.force(1, 0, u), -5, 1);
            f.turn(1, true);
            fraction("ON again", u -> f.force(2, 0, u), -4, 1);
        });
    }

    private static void balance() {
        term("of an end it brings the PIN there PULL times (x, y of the other end less its own).", () -> {
            for (int length = 1; length <= 3; length++) {
                PinFrame f = Frames.mast(length, 6);
                fraction("PULL of " + length, u -> f.pull(0, u), 6 / length, 1);
                fraction("the other end", u -> f.force(0, 0, u), -6, 1);
            }
            PinFrame g = Frames.mast(3, -6);
            fraction("pushed", u -> g.pull(0, u), -2, 1);
        });
        term("of an end it brings the PIN there PULL times (x, y of the other end less its own).", () -> {
            PinFrame f = Frames.posts();
            f.load(3, 0, -4);
            f.load(4, 0, 4);
            fraction("pushed down", u -> f.pull(0, u), -4, 1);
            fraction("drawn up", u -> f.pull(1, u), 4, 1);
            f.place(4, 1, 2);
            fraction("twice as long", u -> f.pull(1, u), 2, 1);
        });
        term("at each PIN, in each direction in which it is not held, the LOAD and what all BARS bring make 0.", () -> {
            PinFrame f = Frames.triangle();
            f.load(2, 0, -4);
            f.load(0, 9, 9);
            f.load(1, 0, 9);
            fraction("LOADS where it is held bring no PULL", u -> f.pull(0, u), 1, 1);
            f.load(1, 2, 9);
            fraction("where it is not held", u -> f.pull(0, u), 2, 1);
        });
        term("FREE is how many directions of all PINS are not held.", () -> {
            PinFrame f = new PinFrame();
            due("no PINS", f.count(3), 0);
            f = Frames.sixPins();
            due("six", f.count(3), 12);
            for (int slot = 0; slot < 12; slot++) {
                f.hold(slot / 2, slot % 2, true);
                due("held " + slot, f.count(3), 11 - slot);
            }
            f.hold(3, 1, false);
            due("let go", f.count(3), 1);
        });
    }

    private static void bases() {
        term("INDEPENDENT are some BARS, if no PULLS of these alone, not all 0, are in BALANCE without LOADS.", () -> {
            PinFrame f = new PinFrame();
            f.pin(0, 0);
            f.pin(3, 0);
            f.pin(1, 0);
            Frames.fix(f, 0, true);
            Frames.fix(f, 1, true);
            f.bar(0, 1, 1);
            due("between held PINS a BAR is not even alone", f.count(5), 0);
            f.bar(0, 2, 1);
            due("at a free one it is", f.count(5), 2);
            f.bar(1, 2, 1);
            due("two in one line are not", f.count(5), 2);
            due("LOOSE all the same", f.count(4), 0);
            f.place(2, 1, 1);
            due("two that are not in line are", f.count(5), 6);
            due("with one to spare", f.count(4), 2);
        });
        term("from BAR 0 on each BAR is of it, if it and those that are already are INDEPENDENT;", () -> {
            PinFrame f = Frames.square();
            due("the last is SPARE", f.count(5), 31);
            for (int bar = 0; bar < 5; bar++) {
                f.turn(bar, false);
                due("without " + bar, f.count(5), 63 & ~(1 << bar));
                f.turn(bar, true);
                due("with it again", f.count(5), 31);
            }
        });
        term("from BAR 0 on", () -> {
            PinFrame f = Frames.fan(5);
            due("the first", f.count(5), 1);
            for (int bar = 0; bar < 4; bar++) {
                f.turn(bar, false);
                due("the first of the rest", f.count(5), 2 << bar);
            }
        });
        term("the others are SPARE ones, numbered from 0 on.", () -> {
            PinFrame f = Frames.stiffer();
            due("SPARE", f.count(6), 33);
            due("first", f.at(0, 5), 0);
            due("other", f.at(5, 5), 1);
            fraction("unit of the first", u -> f.state(0, 0, u), 1, 1);
            fraction("unit of the other", u -> f.state(1, 5, u), 1, 1);
        });
    }

    private static void kinds() {
        term("KIND: 0 LOOSE: BASE has fewer BARS than FREE;", () -> {
            PinFrame f = Frames.fan(1);
            due("as many", f.count(4), 1);
            f.hold(0, 1, false);
            due("one fewer", f.count(4), 0);
            f.hold(0, 1, true);
            f.turn(0, false);
            due("none of one", f.count(4), 0);
            f.hold(0, 0, true);
            due("none of none", f.count(4), 1);
            due("no PINS", new PinFrame().count(4), 1);
        });
        term("KIND: 0 LOOSE: BASE has fewer BARS than FREE;", () -> {
            PinFrame f = Frames.full();
            due("nine of twelve, two SPARE ones", f.count(4) * 100 + Integer.bitCount(f.count(6)), 2);
            f.hold(0, 0, true);
            f.hold(0, 1, true);
            due("nine of ten", f.count(4), 0);
            f.hold(1, 1, true);
            due("nine of nine", f.count(4), 3);
        });
        term("else 1, 2, 3: there are 0, 1, 2 SPARE ones; 4: more.", () -> {
            int[] due = {0, 1, 2, 3, 4, 4};
            for (int many = 0; many <= 5; many++) {
                due("BARS " + many, Frames.fan(many).count(4), due[many]);
            }
            PinFrame f = Frames.full();
            for (int pin = 0; pin < 6; pin++) {
                Frames.fix(f, pin, true);
            }
            due("eleven SPARE ones", f.count(4), 4);
            for (int bar = 0; bar < 11; bar++) {
                f.turn(bar, false);
                due("SPARE ones " + (10 - bar), f.count(4), Math.min(4, 11 - bar));
            }
        });
    }

    private static void fractions() {
        term("Fractions are told by two longs: over, under, in least terms, under above 0 (0: 0 and 1).", () -> {
            int[][] due = {{-9, 2}, {-4, 1}, {-1, 2}, {0, 1}, {1, 2}, {1, 1}, {9, 2}};
            int[] loads = {-9, -8, -1, 0, 1, 2, 9};
            for (int i = 0; i < loads.length; i++) {
                PinFrame f = Frames.mast(2, loads[i]);
                fraction("LOAD " + loads[i], u -> f.pull(0, u), due[i][0], due[i][1]);
                fraction("the hold", u -> f.force(0, 0, u), -loads[i], 1);
            }
        });
        term("in least terms, under above 0 (0: 0 and 1).", () -> {
            PinFrame f = Frames.fan(3);
            f.load(0, 4, 0);
            fraction("4/6", u -> f.pull(0, u), 2, 3);
            fraction("-8/6", u -> f.pull(1, u), -4, 3);
            fraction("-4/6", u -> f.pull(2, u), -2, 3);
            f.load(0, -4, 0);
            fraction("-4/6", u -> f.pull(0, u), -2, 3);
            f.load(0, 0, 9);
            fraction("0", u -> f.pull(0, u), 0, 1);
            fraction("no GAP", u -> f.flex(0, NONE, u), 0, 1);
            fraction("nothing to hold in x", u -> f.force(1, 0, u), 0, 1);
        });
        term("in least terms, under above 0 (0: 0 and 1).", () -> {
            PinFrame f = Frames.fan(0);
            f.bar(0, 2, 3);
            f.bar(0, 1, 2);
            f.bar(0, 3, 1);
            f.load(0, 1, 0);
            fraction("bare", u -> f.state(NONE, 0, u), -1, 2);
            fraction("unit", u -> f.state(0, 0, u), 1, 2);
            fraction("unit", u -> f.state(1, 0, u), -1, 2);
            fraction("FLEX 3/4 + 2", u -> f.flex(0, 0, u), 11, 4);
            fraction("FLEX of both", u -> f.flex(0, 1, u), -3, 4);
            fraction("GAP", u -> f.flex(0, NONE, u), -3, 4);
            fraction("GAP", u -> f.flex(1, NONE, u), 3, 4);
            fraction("PULL: 1/3 of 2 of 17/6", u -> f.pull(0, u), -4, 17);
        });
    }

    // ---- promises 16 to 20

    private static void pulls() {
        say(16, "PULL of a BAR: over, or (under) under.", () -> {
            for (int many = 1; many <= 3; many++) {
                PinFrame f = Frames.fan(many);
                f.load(0, 1, 0);
                int all = new int[] {1, 5, 6}[many - 1];
                due("over", f.pull(0, false), 1);
                due("under", f.pull(0, true), all);
            }
        });
        say(16, "NoSuchElementException: there is none such,", () -> {
            PinFrame f = Frames.triangle();
            for (int bar : Frames.outside(3)) {
                none("bar " + bar, u -> f.pull(bar, u));
            }
            fraction("the last one", u -> f.pull(2, u), 0, 1);
            none("no BARS", u -> new PinFrame().pull(0, u));
        });
        say(16, "it is OUT;", () -> {
            PinFrame f = Frames.fan(2);
            f.load(0, 5, 0);
            f.turn(0, false);
            none("OUT", u -> f.pull(0, u));
            fraction("the other one", u -> f.pull(1, u), -5, 2);
            f.turn(0, true);
            fraction("ON again", u -> f.pull(0, u), 1, 1);
        });
        say(16, "KIND 0 or 4.", () -> {
            PinFrame f = Frames.fan(5);
            none("KIND 4", u -> f.pull(0, u));
            f.turn(4, false);
            none("KIND 4 still", u -> f.pull(0, u));
            f.turn(3, false);
            fraction("KIND 3", u -> f.pull(0, u), 0, 1);
            f.turn(2, false);
            fraction("KIND 2", u -> f.pull(0, u), 0, 1);
            f.turn(1, false);
            fraction("KIND 1", u -> f.pull(0, u), 0, 1);
            f.hold(0, 1, false);
            none("KIND 0", u -> f.pull(0, u));
        });
        term("PULLS: those BARE ones, and each SPARE one's UNIT PULLS times its own PULL", () -> {
            PinFrame f = Frames.fan(3);
            f.load(0, 6, 0);
            fraction("2 and -1 of units 2 and 1", u -> f.pull(0, u), 6 + 2 * -2 + -1, 1);
            fraction("-2", u -> f.pull(1, u), -2, 1);
            fraction("-1", u -> f.pull(2, u), -1, 1);
            f.alter(0, false, 2);
            fraction("it gives more: 1/2 of 1/2 + 5", u -> f.pull(0, u), 6, 11);
            f.alter(0, false, 1);
            f.alter(2, false, 3);
            fraction("another does: 1/3 of 5 + 1/3", u -> f.pull(2, u), -3, 8);
        });
    }

    private static void states() {
        say(17, "BARE PULL of a BAR, or, of the k-th SPARE one (k not NONE), its UNIT PULL", () -> {
            PinFrame f = Frames.fan(3);
            f.load(0, 6, 0);
            fraction("bare", u -> f.state(NONE, 0, u), 6, 1);
            fraction("bare, SPARE", u -> f.state(NONE, 1, u), 0, 1);
            fraction("bare, SPARE", u -> f.state(NONE, 2, u), 0, 1);
            fraction("first unit", u -> f.state(0, 0, u), 2, 1);
            fraction("itself", u -> f.state(0, 1, u), 1, 1);
            fraction("the other", u -> f.state(0, 2, u), 0, 1);
            fraction("other unit", u -> f.state(1, 0, u), 1, 1);
            fraction("the first", u -> f.state(1, 1, u), 0, 1);
            fraction("itself", u -> f.state(1, 2, u), 1, 1);
        });
        say(17, "NoSuchElementException: likewise,", () -> {
            PinFrame f = Frames.fan(3);
            for (int bar : Frames.outside(3)) {
                none("bar " + bar, u -> f.state(NONE, bar, u));
                none("bar " + bar, u -> f.state(0, bar, u));
            }
            f.turn(0, false);
            none("OUT", u -> f.state(NONE, 0, u));
            none("OUT", u -> f.state(0, 0, u));
            fraction("the next one", u -> f.state(NONE, 1, u), 0, 1);
            none("no BARS", u -> new PinFrame().state(NONE, 0, u));
        });
        say(17, "NoSuchElementException: likewise,", () -> {
            PinFrame f = Frames.fan(4);
            none("KIND 4", u -> f.state(NONE, 0, u));
            none("KIND 4", u -> f.state(0, 1, u));
            f.turn(3, false);
            fraction("KIND 3", u -> f.state(0, 1, u), 1, 1);
            f.hold(0, 1, false);
            f.turn(2, false);
            none("KIND 0", u -> f.state(NONE, 0, u));
            due("it is LOOSE", f.count(4), 0);
        });
        say(17, "no such SPARE one.", () -> {
            PinFrame f = Frames.fan(3);
            for (int k : Frames.outsideButNone(2)) {
                none("two: k " + k, u -> f.state(k, 0, u));
            }
            fraction("two: k 1", u -> f.state(1, 2, u), 1, 1);
            f.turn(2, false);
            none("one: k 1", u -> f.state(1, 0, u));
            fraction("one: k 0", u -> f.state(0, 1, u), 1, 1);
            f.turn(1, false);
            none("none: k 0", u -> f.state(0, 0, u));
            fraction("none: NONE", u -> f.state(NONE, 0, u), 0, 1);
        });
    }

    private static void flexes() {
        say(18, "FLEX of two SPARE ones, or (j NONE) GAP of the one", () -> {
            PinFrame f = Frames.fan(3);
            f.load(0, 9, 0);
            f.alter(0, false, 3);
            f.alter(1, false, 2);
            fraction("first: 4 * 3 + 2", u -> f.flex(0, 0, u), 14, 1);
            fraction("both: 2 * 3", u -> f.flex(0, 1, u), 6, 1);
            fraction("the other way", u -> f.flex(1, 0, u), 6, 1);
            fraction("other: 3 + 1", u -> f.flex(1, 1, u), 4, 1);
            fraction("GAP: 3 * 2 * 9", u -> f.flex(0, NONE, u), 54, 1);
            fraction("GAP: 3 * 1 * 9", u -> f.flex(1, NONE, u), 27, 1);
        });
        say(18, "NoSuchElementException: likewise.", () -> {
            PinFrame f = Frames.fan(3);
            for (int k : Frames.outside(2)) {
                none("i " + k, u -> f.flex(k, 0, u));
                none("i " + k, u -> f.flex(k, NONE, u));
            }
            for (int k : Frames.outsideButNone(2)) {
                none("j " + k, u -> f.flex(0, k, u));
            }
            fraction("1 and 1", u -> f.flex(1, 1, u), 2, 1);
            f.turn(2, false);
            none("one alone: i", u -> f.flex(1, 0, u));
            none("one alone: j", u -> f.flex(0, 1, u));
            fraction("one alone", u -> f.flex(0, 0, u), 5, 1);
            f.turn(1, false);
            none("none: i", u -> f.flex(0, NONE, u));
        });
        say(18, "NoSuchElementException: likewise.", () -> {
            PinFrame f = Frames.fan(4);
            none("KIND 4", u -> f.flex(0, 0, u));
            none("KIND 4", u -> f.flex(0, NONE, u));
            f.turn(3, false);
            fraction("KIND 3", u -> f.flex(0, 1, u), 2, 1);
            f.hold(0, 1, false);
            f.place(3, 2, 0);
            due("LOOSE with two SPARE ones", f.count(4) * 100 + f.count(6), 6);
            none("KIND 0", u -> f.flex(0, 0, u));
            none("KIND 0", u -> f.flex(0, NONE, u));
        });
        term("so that for each SPARE one its GAP, and FLEX of it and each SPARE one times that one's PULL, make 0.", () -> {
            PinFrame f = Frames.fan(3);
            f.load(0, 6, 0);
            for (int i = 0; i < 2; i++) {
                long gap = f.flex(i, NONE, false);
                due("spare " + i, gap + f.flex(i, 0, false) * f.pull(1, false) + f.flex(i, 1, false) * f.pull(2, false), 0);
            }
        });
    }

    private static void forces() {
        term("HOLD FORCE of a PIN held in a direction: what makes the LOAD and all that BARS bring there 0 with it.", () -> {
            PinFrame f = Frames.fan(3);
            f.load(0, 6, 0);
            fraction("PIN 0, y", u -> f.force(0, 1, u), 1, 1);
            fraction("PIN 1, x", u -> f.force(1, 0, u), -1, 1);
            fraction("PIN 1, y", u -> f.force(1, 1, u), 0, 1);
            fraction("PIN 2, x", u -> f.force(2, 0, u), -4, 1);
            fraction("PIN 3, x", u -> f.force(3, 0, u), -1, 1);
            fraction("PIN 3, y", u -> f.force(3, 1, u), -1, 1);
            fraction("no BARS, no LOADS", u -> f.force(4, 1, u), 0, 1);
            f.load(0, 6, 9);
            f.load(4, -9, 9);
            fraction("with its own LOAD", u -> f.force(0, 1, u), -8, 1);
            fraction("its own LOAD alone, x", u -> f.force(4, 0, u), 9, 1);
            fraction("its own LOAD alone, y", u -> f.force(4, 1, u), -9, 1);
        });
        say(19, "NoSuchElementException: no such PIN,", () -> {
            PinFrame f = Frames.triangle();
            for (int pin : Frames.outside(3)) {
                none("pin " + pin, u -> f.force(pin, 0, u));
                none("pin " + pin, u -> f.force(pin, 1, u));
            }
            f.hold(2, 1, true);
            fraction("the last one", u -> f.force(2, 1, u), 0, 1);
            none("no PINS", u -> new PinFrame().force(0, 0, u));
        });
        say(19, "direction,", () -> {
            PinFrame f = Frames.triangle();
            for (int direction : Frames.outside(2)) {
                none("direction " + direction, u -> f.force(0, direction, u));
                none("direction " + direction, u -> f.force(1, direction, u));
            }
            fraction("0", u -> f.force(0, 0, u), 0, 1);
            fraction("1", u -> f.force(0, 1, u), 0, 1);
        });
        say(19, "not held there;", () -> {
            PinFrame f = Frames.triangle();
            none("held in y, not in x", u -> f.force(1, 0, u));
            fraction("in y", u -> f.force(1, 1, u), 0, 1);
            none("neither", u -> f.force(2, 0, u));
            none("neither", u -> f.force(2, 1, u));
            PinFrame g = Frames.posts();
            none("held in x, not in y", u -> g.force(5, 1, u));
            fraction("in x", u -> g.force(5, 0, u), 0, 1);
            g.hold(5, 1, true);
            fraction("in both", u -> g.force(5, 1, u), 0, 1);
            g.hold(5, 1, false);
            none("not any more", u -> g.force(5, 1, u));
        });
        say(19, "KIND 0 or 4.", () -> {
            PinFrame f = Frames.fan(4);
            none("KIND 4", u -> f.force(1, 0, u));
            f.turn(3, false);
            fraction("KIND 3", u -> f.force(1, 0, u), 0, 1);
            f.turn(2, false);
            f.turn(1, false);
            fraction("KIND 1", u -> f.force(1, 0, u), 0, 1);
            f.turn(0, false);
            none("KIND 0", u -> f.force(1, 0, u));
        });
        say(19, "HOLD FORCE", () -> {
            PinFrame f = new PinFrame();
            f.pin(3, 2);
            Frames.fix(f, 0, true);
            f.load(0, 9, -9);
            fraction("a held PIN alone is stiff, x", u -> f.force(0, 0, u), -9, 1);
            fraction("a held PIN alone is stiff, y", u -> f.force(0, 1, u), 9, 1);
        });
    }

    private static void influences() {
        term("its PULL, were there one LOAD alone, 1 there", () -> {
            PinFrame f = Frames.fan(2);
            fraction("1/5", u -> f.influence(0, 0, 0, u), 1, 5);
            fraction("-2/5", u -> f.influence(1, 0, 0, u), -2, 5);
            f.load(0, 9, 9);
            fraction("the LOADS do not count", u -> f.influence(0, 0, 0, u), 1, 5);
            fraction("they stay", u -> f.pull(0, u), 9, 5);
        });
        term("(0 where it is held).", () -> {
            PinFrame f = Frames.fan(2);
            f.load(0, 9, 9);
            fraction("held in y", u -> f.influence(0, 0, 1, u), 0, 1);
            fraction("its held end", u -> f.influence(0, 1, 0, u), 0, 1);
            fraction("a PIN that is not of it", u -> f.influence(0, 5, 1, u), 0, 1);
            f.hold(0, 1, false);
            f.hold(0, 0, true);
            none("held in x instead it is LOOSE", u -> f.influence(0, 0, 1, u));
        });
        say(20, "NoSuchElementException: as pull();", () -> {
            PinFrame f = Frames.triangle();
            for (int bar : Frames.outside(3)) {
                none("bar " + bar, u -> f.influence(bar, 2, 1, u));
            }
            fraction("the last one", u -> f.influence(2, 2, 1, u), 1, 2);
            PinFrame g = Frames.fan(4);
            none("KIND 4", u -> g.influence(0, 0, 0, u));
            g.turn(3, false);
            fraction("KIND 3", u -> g.influence(0, 0, 0, u), 1, 6);
            none("OUT", u -> g.influence(3, 0, 0, u));
            g.hold(0, 1, false);
            g.turn(2, false);
            none("KIND 0", u -> g.influence(0, 0, 0, u));
        });
        say(20, "no such PIN,", () -> {
            PinFrame f = Frames.triangle();
            for (int pin : Frames.outside(3)) {
                none("pin " + pin, u -> f.influence(0, pin, 0, u));
                none("pin " + pin, u -> f.influence(0, pin, 1, u));
            }
            fraction("the last one", u -> f.influence(0, 2, 1, u), -1, 4);
            PinFrame g = Frames.fan(1);
            none("the seventh", u -> g.influence(0, 6, 0, u));
            fraction("the sixth", u -> g.influence(0, 5, 0, u), 0, 1);
        });
        say(20, "direction.", () -> {
            PinFrame f = Frames.triangle();
            for (int direction : Frames.outside(2)) {
                none("direction " + direction, u -> f.influence(0, 0, direction, u));
                none("direction " + direction, u -> f.influence(0, 2, direction, u));
            }
            fraction("0", u -> f.influence(0, 2, 0, u), 1, 4);
            fraction("1", u -> f.influence(0, 2, 1, u), -1, 4);
        });
    }

    // ---- promises 23 and 24

    private static void paints() {
        say(23, "BARS with a PULL above 0 (sign 1), below 0 (-1), of 0 (0), as bits;", () -> {
            PinFrame f = Frames.posts();
            f.load(3, 0, 1);
            f.load(4, 0, -1);
            due("above", f.painted(1), 1);
            due("below", f.painted(-1), 2);
            due("of 0", f.painted(0), 4);
            PinFrame g = Frames.fan(2);
            g.load(0, 1, 0);
            due("1/5 is above", g.painted(1), 1);
            due("-2/5 is below", g.painted(-1), 2);
            due("none is 0", g.painted(0), 0);
            PinFrame h = new PinFrame();
            due("no BARS", h.painted(1) + h.painted(-1) + h.painted(0) + h.painted(2), 0);
        });
        say(23, "NONE: another sign;", () -> {
            PinFrame f = Frames.triangle();
            due("3", f.painted(3), NONE);
            due("-2", f.painted(-2), NONE);
            for (int sign : new int[] {4, 5, 32, 255, 256, 257, Frames.FAR, -3, -255, -256, Frames.DEEP, Frames.DEEP + 1}) {
                due("" + sign, f.painted(sign), NONE);
            }
            due("2", f.painted(2), 0);
            due("-1", f.painted(-1), 0);
        });
        say(23, "KIND 0 or 4.", () -> {
            PinFrame f = Frames.fan(4);
            for (int sign = -1; sign <= 2; sign++) {
                due("KIND 4", f.painted(sign), NONE);
            }
            f.turn(3, false);
            due("KIND 3", f.painted(0), 7);
            f.turn(2, false);
            f.turn(1, false);
            due("KIND 1", f.painted(0), 1);
            f.turn(0, false);
            for (int sign = -1; sign <= 2; sign++) {
                due("KIND 0", f.painted(sign), NONE);
            }
        });
    }

    private static void breaks() {
        term("It BREAKS, if its PULL without its sign is above STRENGTH.", () -> {
            for (int sign = -1; sign <= 1; sign += 2) {
                PinFrame f = Frames.mast(1, sign * 9);
                due("9 of 99", f.painted(2), 0);
                f.alter(0, true, 10);
                due("9 of 10", f.painted(2), 0);
                f.alter(0, true, 9);
                due("9 of 9", f.painted(2), 0);
                f.alter(0, true, 8);
                due("9 of 8", f.painted(2), 1);
                f.alter(0, true, 1);
                due("9 of 1", f.painted(2), 1);
            }
        });
        term("It BREAKS, if its PULL without its sign is above STRENGTH.", () -> {
            for (int sign = -1; sign <= 1; sign += 2) {
                PinFrame f = Frames.mast(2, sign * 7);
                f.alter(0, true, 4);
                due("7/2 of 4", f.painted(2), 0);
                f.alter(0, true, 3);
                due("7/2 of 3", f.painted(2), 1);
            }
            PinFrame g = Frames.mast(1, 0);
            g.alter(0, true, 1);
            due("0 of 1", g.painted(2), 0);
        });
        say(23, "(2) that BREAK.", () -> {
            PinFrame f = Frames.posts();
            f.load(3, 0, 5);
            f.load(4, 0, -5);
            f.alter(0, true, 4);
            f.alter(1, true, 4);
            f.alter(2, true, 1);
            due("drawn and pushed", f.painted(2), 3);
            f.alter(0, true, 5);
            due("pushed alone", f.painted(2), 2);
        });
    }

    private static void times() {
        say(24, "TIMES (999 also if no BAR has a PULL but 0).", () -> {
            due("no BARS", new PinFrame().times(), 999);
            PinFrame f = Frames.mast(1, 0);
            f.alter(0, true, 1);
            due("PULL 0, STRENGTH 1", f.times(), 999);
            PinFrame g = Frames.posts();
            g.load(3, 0, 1);
            due("0 of others does not count", g.times(), 99);
        });
        term("0 to 999, so that each BAR's PULL without its sign, rounded up, so many times is no more than STRENGTH.", () -> {
            for (int sign = -1; sign <= 1; sign += 2) {
                PinFrame f = Frames.mast(1, sign);
                int[] strengths = {1, 2, 98, 99, 100, 998, 999};
                for (int strength : strengths) {
                    f.alter(0, true, strength);
                    due("1 of " + strength, f.times(), strength);
                }
                PinFrame g = Frames.mast(1, sign * 9);
                int[] nines = {1, 8, 9, 17, 18, 990, 998, 999};
                int[] due = {0, 0, 1, 1, 2, 110, 110, 111};
                for (int i = 0; i < nines.length; i++) {
                    g.alter(0, true, nines[i]);
                    due("9 of " + nines[i], g.times(), due[i]);
                }
            }
        });
        term("rounded up, so many times is no more than STRENGTH.", () -> {
            for (int sign = -1; sign <= 1; sign += 2) {
                PinFrame f = Frames.mast(2, sign * 7);
                int[] strengths = {1, 3, 4, 7, 8, 999};
                int[] due = {0, 0, 1, 1, 2, 249};
                for (int i = 0; i < strengths.length; i++) {
                    f.alter(0, true, strengths[i]);
                    due("7/2 of " + strengths[i], f.times(), due[i]);
                }
                PinFrame g = Frames.mast(3, sign);
                g.alter(0, true, 999);
                due("1/3 is 1", g.times(), 999);
                g.alter(0, true, 998);
                due("1/3 is 1", g.times(), 998);
                g.load(1, sign * 3, 0);
                due("3/3 is 1", g.times(), 998);
                g.load(1, sign * 4, 0);
                due("4/3 is 2", g.times(), 499);
            }
        });
        term("so that each BAR's PULL", () -> {
            PinFrame f = Frames.posts();
            f.load(3, 0, 4);
            f.load(4, 0, -5);
            f.load(5, 0, 6);
            due("99 of 6", f.times(), 16);
            f.alter(0, true, 40);
            due("40 of 4", f.times(), 10);
            f.alter(1, true, 45);
            due("45 of 5", f.times(), 9);
            f.alter(2, true, 5);
            due("5 of 6", f.times(), 0);
        });
        say(24, "NONE: KIND 0 or 4.", () -> {
            PinFrame f = Frames.fan(5);
            due("KIND 4", f.times(), NONE);
            f.turn(4, false);
            due("KIND 4", f.times(), NONE);
            f.turn(3, false);
            due("KIND 3", f.times(), 999);
            f.turn(2, false);
            f.turn(1, false);
            due("KIND 1", f.times(), 999);
            f.turn(0, false);
            due("KIND 0", f.times(), NONE);
        });
    }
}
