/** Promises 21 and 22, CUTS and JOINTS, and the terms behind them: each sentence that names a boundary case. */
public final class CutEdgeTest extends Answers {
    private static final int NONE = PinFrame.NONE;
    private static final int FAR = Frames.FAR;
    private static final int DEEP = Frames.DEEP;
    private static final int X = 1;
    private static final int Y = 2;

    public static void main(String[] args) {
        System.exit(run() == 0 ? 0 : 1);
    }

    static int run() {
        cutSets();
        cutBars();
        cutPulls();
        jointsOfOneBar();
        jointsOfTwoBars();
        jointsInTurn();
        jointNumbers();
        return end("CutEdgeTest");
    }

    /** The square with one diagonal: the upper PINS are cut off by BARS 1, 3 and 4. */
    private static PinFrame panel() {
        PinFrame f = Frames.square();
        f.turn(5, false);
        return f;
    }

    /** Three BARS from held PINS below up to PINS 3, 4, 5, which nothing else holds. */
    private static PinFrame comb() {
        PinFrame f = Frames.sixPins();
        for (int i = 0; i < 3; i++) {
            Frames.fix(f, i, true);
            f.bar(i, i + 3, 1);
        }
        return f;
    }

    // ---- promise 21

    private static void cutSets() {
        say(21, "there is no such CUT (others than PINS; as told);", () -> {
            PinFrame f = panel();
            for (int set : new int[] {16, 28, 12 + 64, 12 + (1 << 30), DEEP + 12, -4, -1, FAR, DEEP, 12 + 256}) {
                none("set " + set, u -> f.cut(set, 4, u));
            }
            fraction("set 12", u -> f.cut(12, 4, u), 3, 1);
            f.pin(3, 1);
            fraction("a fifth PIN alone beside them", u -> f.cut(28, 4, u), 3, 1);
            none("a sixth", u -> f.cut(44, 4, u));
            f.pin(3, 0);
            fraction("a sixth", u -> f.cut(60, 4, u), 3, 1);
            none("a seventh", u -> f.cut(64 + 60, 4, u));
            none("no PINS", u -> new PinFrame().cut(1, 0, u));
        });
        term("CUT: a set of PINS, not held at all, not empty;", () -> {
            PinFrame f = panel();
            none("empty", u -> f.cut(0, 4, u));
            none("all, held ones too", u -> f.cut(15, 4, u));
            none("the other side is held", u -> f.cut(3, 4, u));
            none("empty, no PINS", u -> new PinFrame().cut(0, 0, u));
        });
        term("not held at all", () -> {
            for (int slot = 0; slot < 4; slot++) {
                PinFrame f = panel();
                int pin = 2 + slot / 2;
                int direction = slot % 2;
                fraction("not held", u -> f.cut(12, 4, u), 3, 1);
                f.hold(pin, direction, true);
                none("PIN " + pin + " held in " + direction, u -> f.cut(12, 4, u));
                f.hold(pin, direction, false);
                fraction("not any more", u -> f.cut(12, 4, u), 3, 1);
            }
        });
        term("three BARS just have one end in it;", () -> {
            PinFrame f = panel();
            fraction("three", u -> f.cut(12, 1, u), -3, 1);
            f.turn(5, true);
            none("four", u -> f.cut(12, 1, u));
            none("four, the fourth", u -> f.cut(12, 5, u));
            f.turn(4, false);
            fraction("three", u -> f.cut(12, 5, u), -3, 1);
            f.turn(3, false);
            none("two", u -> f.cut(12, 5, u));
            none("two, the OUT one", u -> f.cut(12, 3, u));
            f.turn(1, false);
            none("one", u -> f.cut(12, 5, u));
            f.turn(5, false);
            none("none", u -> f.cut(12, 5, u));
            none("none, a BAR inside", u -> f.cut(12, 2, u));
        });
        term("three BARS just have one end in it;", () -> {
            PinFrame f = comb();
            f.place(5, 3, 1);
            fraction("three", u -> f.cut(56, 0, u), 0, 1);
            f.bar(3, 4, 1);
            f.bar(4, 5, 1);
            f.bar(0, 1, 1);
            f.bar(1, 2, 1);
            fraction("with both ends or none in it they do not count", u -> f.cut(56, 0, u), 0, 1);
        });
    }

    private static void cutBars() {
        say(21, "it is not one of the three.", () -> {
            PinFrame f = panel();
            none("both ends in it", u -> f.cut(12, 2, u));
            none("no end in it", u -> f.cut(12, 0, u));
            none("OUT", u -> f.cut(12, 5, u));
            for (int bar : Frames.outside(6)) {
                none("bar " + bar, u -> f.cut(12, bar, u));
            }
            for (int bar : new int[] {33, 35, 36, -31, -28, DEEP + 4}) {
                none("bar " + bar, u -> f.cut(12, bar, u));
            }
            fraction("the first", u -> f.cut(12, 1, u), -3, 1);
            fraction("the second", u -> f.cut(12, 3, u), 0, 1);
            fraction("the third", u -> f.cut(12, 4, u), 3, 1);
        });
        term("if nothing that these bring to the set", () -> {
            PinFrame f = comb();
            f.load(3, 1, 2);
            none("three side by side", u -> f.cut(56, 0, u));
            f.place(5, 3, 1);
            fraction("one leans", u -> f.cut(56, 0, u), 4, 1);
            fraction("one leans", u -> f.cut(56, 1, u), -3, 1);
            fraction("the one that leans", u -> f.cut(56, 2, u), 1, 1);
            f.place(4, 2, 1);
            fraction("two lean alike", u -> f.cut(56, 0, u), 1, 1);
            f.place(3, 1, 1);
            none("all lean alike", u -> f.cut(56, 0, u));
            f.unload();
            none("all lean alike, no LOADS", u -> f.cut(56, 0, u));
        });
        term("if nothing that these bring to the set", () -> {
            PinFrame f = panel();
            none("three at one PIN, which is the set", u -> f.cut(4, 4, u));
            none("two at one PIN", u -> f.cut(8, 3, u));
            PinFrame g = comb();
            g.place(3, 0, 2);
            g.place(5, 2, 2);
            none("side by side, not alike in length", u -> g.cut(56, 0, u));
        });
        term("can be 0 but with PULLS of 0", () -> {
            PinFrame f = new PinFrame();
            f.pin(0, 0);
            f.pin(1, 0);
            f.pin(2, 0);
            f.pin(0, 1);
            f.pin(1, 2);
            f.pin(2, 1);
            Frames.fix(f, 0, true);
            Frames.fix(f, 1, true);
            Frames.fix(f, 2, true);
            f.bar(0, 5, 1);
            f.bar(1, 4, 1);
            f.bar(2, 3, 1);
            none("three lines meet between the PINS", u -> f.cut(56, 1, u));
            f.place(4, 2, 2);
            f.load(4, 0, 4);
            fraction("they do not any more", u -> f.cut(56, 1, u), 8, 1);
            fraction("they do not any more", u -> f.cut(56, 2, u), -4, 1);
            f.place(4, 0, 2);
            fraction("they do not on the other side", u -> f.cut(56, 1, u), 8, 1);
            fraction("they do not on the other side", u -> f.cut(56, 2, u), -8, 1);
            f.place(4, 1, 2);
            none("they meet again", u -> f.cut(56, 1, u));
        });
    }

    private static void cutPulls() {
        term("their PULLS are those by which these three sums, with those of the LOADS, are 0.", () -> {
            PinFrame f = panel();
            f.load(3, 0, 5);
            fraction("left one", u -> f.cut(12, 3, u), 5, 2);
            fraction("right one", u -> f.cut(12, 1, u), -3, 1);
            fraction("diagonal", u -> f.cut(12, 4, u), 3, 1);
            f.load(0, 9, 9);
            f.load(1, 9, 9);
            fraction("LOADS beside it do not count", u -> f.cut(12, 3, u), 5, 2);
            f.load(2, -6, 0);
            f.load(3, 0, -5);
            fraction("left one, all turned round", u -> f.cut(12, 3, u), -5, 2);
            fraction("right one", u -> f.cut(12, 1, u), 3, 1);
            f.unload();
            fraction("no LOADS", u -> f.cut(12, 4, u), 0, 1);
        });
        term("their PULLS are those by which these three sums, with those of the LOADS, are 0.", () -> {
            PinFrame f = Frames.loose();
            f.turn(5, true);
            f.turn(0, false);
            f.turn(2, false);
            due("KIND", f.count(4), 0);
            fraction("of a LOOSE one", u -> f.cut(12, 5, u), -3, 1);
            PinFrame g = panel();
            for (int i = 0; i < 2; i++) {
                g.pin(3, i);
                Frames.fix(g, 4 + i, true);
                g.bar(4 + i, i, 1);
            }
            g.bar(4, 5, 1);
            g.bar(5, 0, 1);
            due("KIND", g.count(4), 4);
            fraction("of one of KIND 4", u -> g.cut(12, 4, u), 3, 1);
        });
    }

    // ---- promise 22

    /** PIN 0 at 1, 1, held as told (1 in x, 2 in y), with BARS to held PINS at these places: x, y, x, y.. */
    private static PinFrame star(int held, int... places) {
        PinFrame f = new PinFrame();
        f.pin(1, 1);
        f.hold(0, 0, (held & X) != 0);
        f.hold(0, 1, (held & Y) != 0);
        for (int i = 0; i + 1 < places.length; i += 2) {
            int pin = f.pin(places[i], places[i + 1]);
            Frames.fix(f, pin, true);
            f.bar(0, pin, 1);
        }
        return f;
    }

    private static void isDone(String call, PinFrame f, boolean done) {
        due(call, f.joint(0), done ? 0 : NONE);
        due(call + " (KNOWN)", f.count(10), done ? f.count(2) : 0);
        due(call + " (one alone)", f.joint(1), NONE);
    }

    private static void jointsOfOneBar() {
        term("at which one or two BARS are not KNOWN", () -> {
            isDone("no BAR", star(0), false);
            isDone("one", star(0, 0, 1), true);
            isDone("two", star(0, 0, 1, 1, 0), true);
            isDone("three", star(0, 0, 1, 1, 0, 2, 2), false);
            isDone("four", star(0, 0, 1, 1, 0, 2, 2, 1, 2), false);
            due("no PINS", new PinFrame().joint(0), NONE);
        });
        term("bring 0 in all its directions that are not held)", () -> {
            isDone("along x, free", star(0, 2, 1), true);
            isDone("along x, held in x", star(X, 2, 1), false);
            isDone("along x, held in y", star(Y, 2, 1), true);
            isDone("along x, held", star(X + Y, 2, 1), false);
            isDone("along y, free", star(0, 1, 2), true);
            isDone("along y, held in x", star(X, 1, 2), true);
            isDone("along y, held in y", star(Y, 1, 2), false);
            isDone("along y, held", star(X + Y, 1, 2), false);
            isDone("slanted, free", star(0, 2, 2), true);
            isDone("slanted, held in x", star(X, 2, 2), true);
            isDone("slanted, held in y", star(Y, 2, 2), true);
            isDone("slanted, held", star(X + Y, 2, 2), false);
        });
    }

    private static void jointsOfTwoBars() {
        term("bring 0 in all its directions that are not held)", () -> {
            isDone("across, free", star(0, 0, 1, 1, 2), true);
            isDone("across, held in x", star(X, 0, 1, 1, 2), false);
            isDone("across, held in y", star(Y, 0, 1, 1, 2), false);
            isDone("across, held", star(X + Y, 0, 1, 1, 2), false);
            isDone("slanted, held in x", star(X, 0, 0, 2, 0), false);
            isDone("slanted, held in y", star(Y, 0, 0, 2, 0), false);
        });
        term("no PULLS of them, not all 0, bring 0 in all its directions", () -> {
            isDone("on both sides in x", star(0, 0, 1, 2, 1), false);
            isDone("on one side in x", star(0, 2, 1, 3, 1), false);
            isDone("on both sides in y", star(0, 1, 0, 1, 2), false);
            isDone("slanted on both sides", star(0, 0, 0, 2, 2), false);
            isDone("slanted the other way", star(0, 2, 0, 0, 2), false);
            isDone("slanted, not in line", star(0, 0, 0, 3, 2), true);
            isDone("slanted on one side", star(0, 2, 2, 3, 2), true);
        });
        term("(whatever the LOADS: no PULLS of them, not all 0, bring 0", () -> {
            PinFrame f = star(0, 0, 1, 2, 1);
            f.load(0, 5, 0);
            isDone("LOADS along the line", f, false);
            PinFrame g = star(0, 0, 1);
            g.load(0, 0, 9);
            isDone("LOADS that it can't bear", g, true);
        });
    }

    private static void jointsInTurn() {
        term("are KNOWN then; and so on. (None is KNOWN at first.", () -> {
            PinFrame f = star(0, 0, 1, 1, 0, 2, 2);
            isDone("three, all ends held", f, false);
            Frames.fix(f, 3, false);
            due("the other end first", f.joint(0), 3);
            due("then two are left", f.joint(1), 0);
            due("KNOWN", f.count(10), 7);
            due("no more", f.joint(2), NONE);
            Frames.fix(f, 3, true);
            isDone("none is KNOWN from before", f, false);
        });
        term("the least number,", () -> {
            PinFrame f = star(0, 0, 1, 1, 0, 2, 2);
            Frames.fix(f, 3, false);
            f.pin(3, 0);
            f.bar(4, 1, 1);
            due("3 before 4", f.joint(0), 3);
            due("then 0, which could not be before", f.joint(1), 0);
            due("then 4", f.joint(2), 4);
            due("no more", f.joint(3), NONE);
        });
        term("of PINS that are not DONE yet", () -> {
            PinFrame f = Frames.sixPins();
            for (int pin = 0; pin < 5; pin++) {
                f.bar(pin, pin + 1, 1);
            }
            for (int k = 0; k < 5; k++) {
                due("a row: " + k, f.joint(k), k);
            }
            due("at the last one all are KNOWN", f.joint(5), NONE);
            due("KNOWN", f.count(10), 31);
            f.bar(5, 0, 1);
            due("a ring: the corner", f.joint(0), 0);
            due("a ring: the last", f.joint(4), 4);
            due("KNOWN", f.count(10), 63);
            due("no sixth", f.joint(5), NONE);
        });
        term("This for any KIND.", () -> {
            due("KIND 0", Frames.loose().joint(0), 2);
            PinFrame f = Frames.fan(5);
            due("KIND 4, five BARS at one PIN", f.joint(0), NONE);
            f.hold(5, 0, false);
            due("KIND 4", f.count(4), 4);
            due("one BAR at its end", f.joint(0), 5);
            due("KNOWN", f.count(10), 16);
        });
    }

    private static void jointNumbers() {
        say(22, "The k-th PIN that is DONE by JOINTS.", () -> {
            PinFrame f = Frames.loose();
            due("0", f.joint(0), 2);
            due("1", f.joint(1), 1);
            due("2", f.joint(2), 3);
            due("0 again", f.joint(0), 2);
            f.turn(2, false);
            due("PIN 2 has one left", f.joint(0), 2);
            f.turn(1, false);
            due("PIN 2 has none left", f.joint(0), 1);
        });
        say(22, "NONE: not so many.", () -> {
            PinFrame f = Frames.triangle();
            due("0", f.joint(0), 2);
            due("1", f.joint(1), 1);
            for (int k : Frames.outside(2)) {
                due("" + k, f.joint(k), NONE);
            }
            PinFrame g = Frames.square();
            for (int k = -1; k <= 6; k++) {
                due("none is DONE: " + k, g.joint(k), NONE);
            }
            due("no PINS", new PinFrame().joint(0), NONE);
        });
    }
}
