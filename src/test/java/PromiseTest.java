/** Each promise by hand: ordinary inputs, the edges that the document names, wrong inputs. */
public final class PromiseTest extends Answers {
    private static final int NONE = PinFrame.NONE;
    private static final int FAR = Frames.FAR;
    private static final int DEEP = Frames.DEEP;

    public static void main(String[] args) {
        System.exit(run() == 0 ? 0 : 1);
    }

    static int run() {
        newObject();
        pins();
        places();
        bars();
        turns();
        alters();
        holds();
        loads();
        unloads();
        decks();
        strips();
        trains();
        counts();
        countsOfKinds();
        ofPins();
        atBars();
        pulls();
        states();
        flexes();
        forces();
        influences();
        cuts();
        cutsThatAreNone();
        joints();
        paints();
        times();
        ridings();
        worsts();
        withouts();
        lefts();
        keys();
        mends();
        return end("PromiseTest");
    }

    // ---- the promises

    private static void newObject() {
        head("promise 1");
        PinFrame f = new PinFrame();
        due("NONE", PinFrame.NONE, -1);
        for (int what = 0; what <= 10; what++) {
            due("count " + what, f.count(what), what == 4 ? 1 : 0);
        }
        none("of", () -> f.of(0, 0));
        none("at", () -> f.at(0, 0));
        due("painted", f.painted(0), 0);
        due("times", f.times(), 999);
        due("keys", f.keys(), 0);
        due("mend", f.mend(true), 0);
    }

    private static void pins() {
        head("promise 2");
        PinFrame f = new PinFrame();
        due("first", f.pin(3, 2), 0);
        due("the same", f.pin(3, 2), NONE);
        due("x above", f.pin(4, 0), NONE);
        due("x below", f.pin(-1, 0), NONE);
        due("y above", f.pin(0, 3), NONE);
        due("y below", f.pin(0, -1), NONE);
        due("far", f.pin(FAR, DEEP), NONE);
        due("none of these came", f.count(0), 1);
        due("second", f.pin(2, 2), 1);
        due("third", f.pin(3, 1), 2);
        f.pin(0, 0);
        f.pin(1, 0);
        due("sixth", f.pin(2, 0), 5);
        due("seventh", f.pin(3, 0), NONE);
        due("six", f.count(0), 6);
    }

    private static void places() {
        head("promise 3");
        PinFrame f = Frames.triangle();
        due("goes", f.place(2, 3, 2), true);
        due("x", f.of(2, 0), 3);
        due("y", f.of(2, 1), 2);
        due("to itself", f.place(2, 3, 2), false);
        due("to another", f.place(2, 2, 0), false);
        due("no such pin", f.place(3, 0, 1), false);
        due("no such pin", f.place(-1, 0, 1), false);
        due("no such place", f.place(2, 4, 0), false);
        due("no such place", f.place(2, 0, 3), false);
        due("no such place", f.place(2, DEEP, 0), false);
        due("stays", f.of(2, 0) * 10 + f.of(2, 1), 32);
        due("its old place is free", f.place(0, 1, 1), true);
        due("bars go along", f.of(0, 5), 3);
    }

    private static void bars() {
        head("promise 4");
        PinFrame f = new PinFrame();
        for (int i = 0; i < 6; i++) {
            f.pin(i % 4, i / 4);
        }
        due("first", f.bar(4, 1, 3), 0);
        due("the same", f.bar(4, 1, 1), NONE);
        due("the other way", f.bar(1, 4, 1), NONE);
        f.turn(0, false);
        due("an OUT one is there, too", f.bar(1, 4, 1), NONE);
        due("give 0", f.bar(0, 1, 0), NONE);
        due("give 4", f.bar(0, 1, 4), NONE);
        due("one pin twice", f.bar(2, 2, 1), NONE);
        due("no such pin", f.bar(6, 1, 1), NONE);
        due("no such pin", f.bar(1, -1, 1), NONE);
        due("none came", f.count(1), 1);
        int number = 1;
        for (int one = 0; one < 6; one++) {
            for (int other = one + 1; other < 6; other++) {
                if (one != 1 || other != 4) {
                    due("more", f.bar(one, other, 1), number < 11 ? number : NONE);
                    number++;
                }
            }
        }
        due("eleven", f.count(1), 11);
        due("one is OUT", f.count(2), 2046);
    }

    private static void turns() {
        head("promise 5");
        PinFrame f = Frames.triangle();
        due("on at first", f.turn(1, true), false);
        due("out", f.turn(1, false), true);
        due("out already", f.turn(1, false), false);
        due("bits", f.count(2), 5);
        due("loose", f.count(4), 0);
        due("on again", f.turn(1, true), true);
        due("bits", f.count(2), 7);
        due("stiff", f.count(4), 1);
        due("no such", f.turn(3, true), false);
        due("no such", f.turn(3, false), false);
        due("no such", f.turn(-1, false), false);
        due("no such", f.turn(32, false), false);
        due("bits", f.count(2), 7);
    }

    private static void alters() {
        head("promise 6");
        PinFrame f = Frames.triangle();
        due("give", f.alter(0, false, 3), true);
        due("give as it is", f.alter(0, false, 3), false);
        due("give 0", f.alter(0, false, 0), false);
        due("give 4", f.alter(0, false, 4), false);
        due("strength as it is", f.alter(0, true, 99), false);
        due("strength", f.alter(0, true, 999), true);
        due("strength 1000", f.alter(0, true, 1000), false);
        due("strength 0", f.alter(0, true, 0), false);
        due("strength 1", f.alter(0, true, 1), true);
        due("no such", f.alter(3, true, 5), false);
        due("no such", f.alter(-1, false, 2), false);
        due("give is", f.at(0, 2), 3);
        due("strength is", f.at(0, 3), 1);
        due("others stay", f.at(1, 2) * 100 + f.at(1, 3), 199);
        f.turn(2, false);
        due("an OUT one, too", f.alter(2, false, 2), true);
        due("give is", f.at(2, 2), 2);
    }

    private static void holds() {
        head("promise 7");
        PinFrame f = Frames.triangle();
        due("held already", f.hold(0, 1, true), false);
        due("not held", f.hold(1, 0, false), false);
        due("held in x", f.hold(1, 0, true), true);
        due("both", f.of(1, 4), 3);
        due("not any more", f.hold(1, 1, false), true);
        due("x alone", f.of(1, 4), 1);
        due("direction 2", f.hold(1, 2, true), false);
        due("direction -1", f.hold(1, -1, true), false);
        due("no such pin", f.hold(3, 0, true), false);
        due("no such pin", f.hold(-1, 1, true), false);
        due("free", f.count(3), 3);
    }

    private static void loads() {
        head("promise 8");
        PinFrame f = Frames.triangle();
        due("load", f.load(2, 9, -9), true);
        due("the same", f.load(2, 9, -9), true);
        due("above", f.load(2, 10, 0), false);
        due("below", f.load(2, 0, -10), false);
        due("above", f.load(2, 0, 10), false);
        due("below", f.load(2, -10, 0), false);
        due("no such pin", f.load(3, 1, 1), false);
        due("no such pin", f.load(-1, 1, 1), false);
        due("in x", f.of(2, 2), 9);
        due("in y", f.of(2, 3), -9);
        due("on a held one", f.load(0, 1, 2), true);
        due("in y", f.of(0, 3), 2);
    }

    private static void unloads() {
        head("promise 9");
        PinFrame f = Frames.triangle();
        due("none", f.unload(), 0);
        f.load(0, 1, 2);
        f.load(2, 0, -4);
        due("three", f.unload(), 3);
        due("none is left", f.unload(), 0);
        due("x", f.of(0, 2), 0);
        due("y", f.of(2, 3), 0);
    }

    private static void decks() {
        head("promise 10");
        PinFrame f = Frames.triangle();
        due("no such", f.deck(3), NONE);
        due("no such", f.deck(-1), NONE);
        due("first", f.deck(2), 1);
        due("there", f.deck(2), NONE);
        due("second", f.deck(0), 2);
        due("there", f.deck(2), NONE);
        due("third", f.deck(1), 3);
        due("three", f.count(8), 3);
    }

    private static void strips() {
        head("promise 11");
        PinFrame f = Frames.triangle();
        due("none", f.strip(), 0);
        f.deck(1);
        f.deck(2);
        due("two", f.strip(), 2);
        due("none is left", f.count(8), 0);
        due("none", f.strip(), 0);
        due("again", f.deck(1), 1);
    }

    private static void trains() {
        head("promise 12");
        PinFrame f = Frames.triangle();
        due("0", f.train(0), NONE);
        due("one", f.train(9), 1);
        due("four", f.train(1234), 4);
        due("five", f.train(12345), NONE);
        due("a 0", f.train(102), NONE);
        due("a 0", f.train(120), NONE);
        due("a 0", f.train(10000), NONE);
        due("below 0", f.train(-5), NONE);
        due("far", f.train(FAR), NONE);
        due("deep", f.train(DEEP), NONE);
        due("as it was", f.count(9), 4);
        due("two", f.train(71), 2);
        f.deck(2);
        due("the highest first", f.riding(1, 0, false) * 10 + f.riding(1, 0, true), -7 * 10 + 2);
        due("then the next", f.riding(1, 1, false) * 10 + f.riding(1, 1, true), -1 * 10 + 2);
    }

    private static void counts() {
        head("promise 13");
        PinFrame f = Frames.square();
        due("pins", f.count(0), 4);
        due("bars", f.count(1), 6);
        due("on", f.count(2), 63);
        due("free", f.count(3), 5);
        due("kind", f.count(4), 2);
        due("base", f.count(5), 31);
        due("spare", f.count(6), 32);
        due("could go", f.count(7), 0);
        due("deck", f.count(8), 0);
        due("weights", f.count(9), 0);
        due("known", f.count(10), 0);
        due("no such", f.count(11), NONE);
        due("no such", f.count(-1), NONE);
        due("no such", f.count(FAR), NONE);
        f.turn(0, false);
        due("bars", f.count(1), 6);
        due("base without bar 0", f.count(5), 62);
        due("known", f.count(10), 0);
        f.turn(5, false);
        due("known", f.count(10), 30);
    }

    private static void countsOfKinds() {
        PinFrame f = Frames.stiffer();
        due("two spares", f.count(4) * 100 + f.count(6), 333);
        f = Frames.stiffest();
        due("four spares", f.count(4), 4);
        due("base", f.count(5), 2 + 4);
        due("spare", f.count(6), 57);
        f.turn(0, false);
        due("three spares", f.count(4), 4);
        f = Frames.loose();
        due("loose", f.count(4), 0);
        due("could go", f.count(7), 1);
        f.hold(1, 0, true);
        due("loose with a spare one", f.count(4) * 100 + f.count(6), 1);
        due("loose with a base", f.count(5), 14);
    }

    private static void ofPins() {
        head("promise 14");
        PinFrame f = Frames.square();
        f.load(2, 6, -3);
        due("x", f.of(3, 0), 0);
        due("y", f.of(3, 1), 2);
        due("in x", f.of(2, 2), 6);
        due("in y", f.of(2, 3), -3);
        due("both", f.of(0, 4), 3);
        due("y alone", f.of(1, 4), 2);
        due("neither", f.of(2, 4), 0);
        due("bars", f.of(2, 5), 22);
        f.turn(4, false);
        due("those on", f.of(2, 5), 6);
        none("what 6", () -> f.of(2, 6));
        none("what -1", () -> f.of(2, -1));
        none("no such pin", () -> f.of(4, 0));
        none("no such pin", () -> f.of(-1, 0));
    }

    private static void atBars() {
        head("promise 15");
        PinFrame f = Frames.stiffer();
        f.bar(3, 1, 2);
        f.alter(3, true, 7);
        due("one", f.at(3, 0), 3);
        due("other", f.at(3, 1), 0);
        due("give", f.at(3, 2), 1);
        due("strength", f.at(3, 3), 7);
        due("on", f.at(3, 4), 1);
        due("first spare", f.at(0, 5), 0);
        due("other spare", f.at(5, 5), 1);
        due("no spare", f.at(3, 5), NONE);
        f.turn(0, false);
        due("out", f.at(0, 4), 0);
        due("out, no spare", f.at(0, 5), NONE);
        due("spare now", f.at(5, 5), 0);
        due("out, its pin", f.at(0, 1), 1);
        none("what 6", () -> f.at(0, 6));
        none("what -1", () -> f.at(0, -1));
        none("no such bar", () -> f.at(6, 0));
        none("no such bar", () -> f.at(-1, 0));
    }

    private static void pulls() {
        head("promise 16");
        PinFrame f = Frames.triangle();
        f.load(2, 0, -4);
        fraction("bar 0", u -> f.pull(0, u), 1, 1);
        fraction("bar 1", u -> f.pull(1, u), -2, 1);
        fraction("bar 2", u -> f.pull(2, u), -2, 1);
        none("no such", () -> f.pull(3, false));
        none("no such", () -> f.pull(-1, true));
        PinFrame g = Frames.square();
        fraction("one spare", u -> g.pull(5, u), -1, 1);
        g.alter(5, false, 3);
        fraction("gives more", u -> g.pull(5, u), -3, 4);
        fraction("others bear it", u -> g.pull(4, u), 9, 4);
        PinFrame h = Frames.stiffer();
        fraction("held ends", u -> h.pull(0, u), 0, 1);
        fraction("two spares", u -> h.pull(1, u), -9, 5);
        fraction("two spares", u -> h.pull(2, u), 6, 5);
        fraction("two spares", u -> h.pull(5, u), -6, 5);
        h.turn(0, false);
        none("out", () -> h.pull(0, false));
        none("loose", () -> Frames.loose().pull(0, false));
        none("too many spares", () -> Frames.stiffest().pull(1, false));
    }

    private static void states() {
        head("promise 17");
        PinFrame f = Frames.stiffer();
        fraction("bare", u -> f.state(NONE, 1, u), -3, 1);
        fraction("bare", u -> f.state(NONE, 4, u), 3, 1);
        fraction("bare spare", u -> f.state(NONE, 5, u), 0, 1);
        fraction("unit 0", u -> f.state(0, 0, u), 1, 1);
        fraction("unit 0", u -> f.state(0, 5, u), 0, 1);
        fraction("unit 1", u -> f.state(1, 5, u), 1, 1);
        fraction("unit 1", u -> f.state(1, 0, u), 0, 1);
        fraction("unit 1", u -> f.state(1, 3, u), -1, 1);
        fraction("unit 1", u -> f.state(1, 4, u), 1, 1);
        none("no such spare", () -> f.state(2, 0, false));
        none("no such spare", () -> f.state(-2, 0, false));
        none("no such bar", () -> f.state(0, 6, false));
        none("no such bar", () -> f.state(NONE, -1, false));
        f.turn(0, false);
        none("out", () -> f.state(NONE, 0, false));
        none("one spare less", () -> f.state(1, 5, false));
        fraction("the first now", u -> f.state(0, 2, u), -1, 1);
        none("no spare", () -> Frames.triangle().state(0, 0, false));
        none("loose", () -> Frames.loose().state(NONE, 0, false));
        none("too many", () -> Frames.stiffest().state(NONE, 1, false));
    }

    private static void flexes() {
        head("promise 18");
        PinFrame f = Frames.stiffer();
        f.alter(0, false, 2);
        fraction("first", u -> f.flex(0, 0, u), 2, 1);
        fraction("both", u -> f.flex(0, 1, u), 0, 1);
        fraction("other", u -> f.flex(1, 1, u), 5, 1);
        fraction("gap", u -> f.flex(1, NONE, u), 6, 1);
        fraction("gap", u -> f.flex(0, NONE, u), 0, 1);
        f.alter(4, false, 3);
        fraction("gap with give", u -> f.flex(1, NONE, u), 12, 1);
        none("no such", () -> f.flex(NONE, 0, false));
        none("no such", () -> f.flex(2, 0, false));
        none("no such", () -> f.flex(0, 2, false));
        none("no such", () -> f.flex(0, -2, false));
        none("no spare", () -> Frames.triangle().flex(0, 0, false));
        none("loose", () -> Frames.loose().flex(0, NONE, false));
        none("too many", () -> Frames.stiffest().flex(0, 0, false));
    }

    private static void forces() {
        head("promise 19");
        PinFrame f = Frames.stiffer();
        fraction("pin 0 x", u -> f.force(0, 0, u), -18, 5);
        fraction("pin 0 y", u -> f.force(0, 1, u), -6, 1);
        fraction("pin 1 x", u -> f.force(1, 0, u), -12, 5);
        fraction("pin 1 y", u -> f.force(1, 1, u), 6, 1);
        f.load(1, 2, 9);
        fraction("its own load in x", u -> f.force(1, 0, u), -22, 5);
        fraction("its own load in y", u -> f.force(1, 1, u), -3, 1);
        none("not held", () -> f.force(2, 0, false));
        none("direction", () -> f.force(0, 2, false));
        none("direction", () -> f.force(0, -1, false));
        none("no such pin", () -> f.force(4, 0, false));
        none("no such pin", () -> f.force(-1, 0, false));
        none("held in y alone", () -> Frames.triangle().force(1, 0, false));
        none("loose", () -> Frames.loose().force(0, 0, false));
        none("too many", () -> Frames.stiffest().force(0, 0, false));
    }

    private static void influences() {
        head("promise 20");
        PinFrame f = Frames.triangle();
        f.load(2, 5, 5);
        fraction("in y", u -> f.influence(0, 2, 1, u), -1, 4);
        fraction("in x", u -> f.influence(0, 2, 0, u), 1, 4);
        fraction("held", u -> f.influence(0, 0, 0, u), 0, 1);
        fraction("held in y alone", u -> f.influence(0, 1, 1, u), 0, 1);
        fraction("not held in x", u -> f.influence(0, 1, 0, u), 1, 2);
        none("no such bar", () -> f.influence(3, 0, 0, false));
        none("no such pin", () -> f.influence(0, 3, 0, false));
        none("no such pin", () -> f.influence(0, -1, 0, false));
        none("direction", () -> f.influence(0, 0, 2, false));
        none("direction", () -> f.influence(0, 0, -1, false));
        due("loads stay", f.of(2, 2), 5);
        PinFrame g = Frames.stiffer();
        fraction("two spares", u -> g.influence(1, 2, 0, u), -3, 10);
        g.turn(0, false);
        none("out", () -> g.influence(0, 2, 0, false));
        none("loose", () -> Frames.loose().influence(0, 2, 0, false));
        none("too many", () -> Frames.stiffest().influence(1, 2, 0, false));
    }

    private static void cuts() {
        head("promise 21");
        PinFrame f = Frames.square();
        f.turn(5, false);
        fraction("diagonal", u -> f.cut(12, 4, u), 3, 1);
        fraction("right one", u -> f.cut(12, 1, u), -3, 1);
        fraction("left one", u -> f.cut(12, 3, u), 0, 1);
        f.load(3, 0, 5);
        fraction("left one", u -> f.cut(12, 3, u), 5, 2);
        none("not one of the three", () -> f.cut(12, 2, false));
        none("no such bar", () -> f.cut(12, -1, false));
        none("no such bar", () -> f.cut(12, 6, false));
        none("three in one point", () -> f.cut(4, 1, false));
        none("two bars", () -> f.cut(8, 2, false));
        f.turn(5, true);
        none("four bars", () -> f.cut(12, 1, false));
        f.turn(4, false);
        fraction("the other diagonal", u -> f.cut(12, 5, u), -3, 1);
        f.turn(2, false);
        fraction("any KIND", u -> f.cut(12, 5, u), -3, 1);
        due("loose", f.count(4), 0);
    }

    private static void cutsThatAreNone() {
        PinFrame f = Frames.square();
        f.turn(5, false);
        none("empty", () -> f.cut(0, 4, false));
        none("other pins", () -> f.cut(28, 4, false));
        none("below 0", () -> f.cut(-4, 4, false));
        none("held", () -> f.cut(13, 4, false));
        none("held in y", () -> f.cut(14, 0, false));
        f.hold(3, 1, true);
        none("held in one direction", () -> f.cut(12, 4, false));
        f.hold(3, 1, false);
        fraction("not any more", u -> f.cut(12, 4, u), 3, 1);
        f.hold(3, 0, true);
        none("held in the other", () -> f.cut(12, 4, false));
        none("a new one", () -> new PinFrame().cut(1, 0, false));
        PinFrame g = new PinFrame();
        for (int i = 0; i < 3; i++) {
            g.pin(i, 0);
            g.pin(i, 1);
        }
        g.bar(0, 1, 1);
        g.bar(2, 3, 1);
        g.bar(4, 5, 1);
        none("three side by side", () -> g.cut(42, 0, false));
        g.place(5, 3, 1);
        g.load(1, 0, 2);
        fraction("all pins of one side", u -> g.cut(42, 0, u), 2, 1);
        fraction("all pins of one side", u -> g.cut(42, 2, u), 0, 1);
    }

    private static void joints() {
        head("promise 22");
        PinFrame f = Frames.triangle();
        due("first", f.joint(0), 2);
        due("then", f.joint(1), 1);
        due("no more", f.joint(2), NONE);
        due("below", f.joint(-1), NONE);
        due("far", f.joint(FAR), NONE);
        due("known", f.count(10), 7);
        f.hold(1, 0, true);
        due("pin 1 is held", f.joint(1), NONE);
        due("known", f.count(10), 6);
        f.place(2, 1, 0);
        due("in one line", f.joint(0), NONE);
        f.turn(1, false);
        due("one bar", f.joint(0), 2);
        f.hold(2, 0, true);
        due("not along y", f.joint(0), NONE);
        PinFrame g = Frames.loose();
        due("any KIND", g.joint(0), 2);
        due("least first", g.joint(1), 1);
        due("any KIND", g.joint(2), 3);
        due("known", g.count(10), 15);
        due("three unknown at each", Frames.square().joint(0), NONE);
    }

    private static void paints() {
        head("promise 23");
        PinFrame f = Frames.stiffer();
        due("above", f.painted(1), 28);
        due("below", f.painted(-1), 34);
        due("of 0", f.painted(0), 1);
        due("none breaks", f.painted(2), 0);
        f.alter(5, true, 1);
        due("6/5 above 1", f.painted(2), 32);
        f.alter(5, true, 2);
        due("6/5 below 2", f.painted(2), 0);
        f.turn(0, false);
        due("an OUT one has none", f.painted(0), 0);
        due("sign", f.painted(3), NONE);
        due("sign", f.painted(-2), NONE);
        due("loose", Frames.loose().painted(1), NONE);
        due("too many", Frames.stiffest().painted(0), NONE);
        PinFrame g = Frames.triangle();
        g.load(2, 0, -4);
        g.alter(1, true, 2);
        due("just as strong", g.painted(2), 0);
        g.alter(1, true, 1);
        due("not as strong", g.painted(2), 2);
    }

    private static void times() {
        head("promise 24");
        PinFrame f = Frames.stiffer();
        due("9/5 is 2", f.times(), 49);
        f.alter(1, true, 3);
        due("once", f.times(), 1);
        f.alter(2, true, 1);
        due("not once", f.times(), 0);
        f.unload();
        due("no pulls", f.times(), 999);
        PinFrame g = Frames.triangle();
        g.load(2, 0, -1);
        g.alter(0, true, 999);
        g.alter(1, true, 999);
        due("the weakest", g.times(), 99);
        g.alter(2, true, 999);
        due("999 of 1", g.times(), 999);
        due("loose", Frames.loose().times(), NONE);
        due("too many", Frames.stiffest().times(), NONE);
    }

    private static void ridings() {
        head("promise 25");
        PinFrame f = Frames.square();
        f.turn(5, false);
        f.deck(3);
        none("no train", () -> f.riding(3, 0, false));
        f.train(12);
        f.strip();
        none("no deck", () -> f.riding(3, 0, false));
        f.deck(3);
        f.deck(2);
        fraction("at 0", u -> f.riding(3, 0, u), -1, 2);
        fraction("at 1", u -> f.riding(3, 1, u), -1, 1);
        fraction("at 2", u -> f.riding(3, 2, u), 0, 1);
        fraction("at 0", u -> f.riding(1, 0, u), 0, 1);
        fraction("at 1", u -> f.riding(1, 1, u), -1, 2);
        fraction("at 2", u -> f.riding(1, 2, u), -1, 1);
        none("t", () -> f.riding(1, 3, false));
        none("t", () -> f.riding(1, -1, false));
        none("t", () -> f.riding(1, FAR, false));
        none("out", () -> f.riding(5, 0, false));
        none("no such", () -> f.riding(6, 0, false));
        due("loads stay", f.of(2, 2), 6);
        f.hold(3, 1, true);
        fraction("a held one bears it itself", u -> f.riding(3, 0, u), 0, 1);
        f.hold(3, 1, false);
        f.turn(4, false);
        none("loose", () -> f.riding(1, 0, false));
    }

    private static void worsts() {
        head("promise 26");
        PinFrame f = Frames.square();
        f.turn(5, false);
        f.deck(3);
        due("no train", f.worst(3), NONE);
        f.train(12);
        f.strip();
        due("no deck", f.worst(3), NONE);
        f.deck(3);
        f.deck(2);
        due("left one", f.worst(3), 1);
        due("right one", f.worst(1), 2);
        due("of like ones the least", f.worst(4), 0);
        f.train(22);
        due("of like ones the least", f.worst(3), 0);
        due("of like ones the least", f.worst(1), 1);
        due("out", f.worst(5), NONE);
        due("no such", f.worst(6), NONE);
        due("no such", f.worst(-1), NONE);
        f.turn(4, false);
        due("loose", f.worst(1), NONE);
        f.hold(3, 0, true);
        f.hold(3, 1, true);
        f.hold(1, 0, true);
        f.turn(4, true);
        f.turn(5, true);
        due("too many", f.worst(1), NONE);
    }

    private static void withouts() {
        head("promise 27");
        PinFrame f = Frames.square();
        due("one less", f.without(0), 1);
        due("nothing changes", f.count(4), 2);
        f.turn(5, false);
        due("loose", f.without(4), 0);
        due("out", f.without(5), NONE);
        due("no such", f.without(6), NONE);
        due("no such", f.without(-1), NONE);
        due("loose stays loose", Frames.loose().without(0), 0);
        due("kind 3 to 2", Frames.stiffer().without(0), 2);
        due("three spares", Frames.stiffest().without(0), 4);
        PinFrame g = Frames.stiffest();
        g.turn(0, false);
        due("kind 4 to 3", g.without(3), 3);
    }

    private static void lefts() {
        head("promise 28");
        PinFrame f = Frames.square();
        fraction("the other diagonal", u -> f.left(4, 5, u), -3, 1);
        fraction("the lower one", u -> f.left(4, 0, u), 3, 1);
        fraction("without the spare one", u -> f.left(5, 4, u), 3, 1);
        due("nothing changes", f.pull(5, false), -1);
        none("they are one", () -> f.left(4, 4, false));
        none("no such", () -> f.left(6, 4, false));
        none("no such", () -> f.left(4, 6, false));
        none("no such", () -> f.left(-1, 4, false));
        f.turn(5, false);
        none("out", () -> f.left(5, 4, false));
        none("out", () -> f.left(4, 5, false));
        none("loose then", () -> f.left(4, 0, false));
        PinFrame g = Frames.stiffest();
        none("too many then", () -> g.left(0, 1, false));
        g.turn(0, false);
        fraction("KIND 3 then", u -> g.left(3, 2, u), 2, 1);
        PinFrame h = Frames.stiffer();
        fraction("one spare then", u -> h.left(0, 5, u), -6, 5);
        fraction("one spare then", u -> h.left(5, 4, u), 3, 1);
    }

    private static void keys() {
        head("promise 29");
        due("all", Frames.triangle().keys(), 7);
        due("none", Frames.square().keys(), 0);
        due("loose", Frames.loose().keys(), 0);
        PinFrame f = Frames.square();
        f.turn(5, false);
        due("all on", f.keys(), 31);
        due("a bar between held ones and two diagonals", Frames.stiffer().keys(), 0);
        PinFrame g = Frames.square();
        g.pin(3, 0);
        g.bar(4, 1, 1);
        g.bar(4, 2, 1);
        due("those of a pin of two bars", g.keys(), 64 + 128);
        due("KIND 2", g.count(4), 2);
        due("too many spares", Frames.stiffest().keys(), 0);
    }

    private static void mends() {
        head("promise 30");
        PinFrame f = Frames.loose();
        due("one", f.mend(false), 1);
        due("the least", f.mend(true), 16);
        due("not loose", Frames.square().mend(false), 0);
        due("not loose", Frames.square().mend(true), 0);
        f.turn(0, false);
        due("two", f.mend(false), 2);
        due("the least two", f.mend(true), 17);
        f.turn(1, false);
        due("three", f.mend(true), 1 + 2 + 16);
        PinFrame g = Frames.stiffer();
        g.turn(0, false);
        g.turn(4, false);
        g.turn(5, false);
        due("one that does not help is left out", g.mend(true), 16);
        due("one", g.mend(false), 1);
        PinFrame h = new PinFrame();
        h.pin(0, 0);
        h.pin(1, 0);
        h.bar(0, 1, 1);
        h.turn(0, false);
        due("by none", h.mend(false), NONE);
        due("by none", h.mend(true), NONE);
    }
}
