/** Promises 1 to 15: each sentence that names a boundary case, at the boundary, just inside and just outside. */
public final class BuiltEdgeTest extends Answers {
    private static final int NONE = PinFrame.NONE;
    private static final int FAR = Frames.FAR;
    private static final int DEEP = Frames.DEEP;

    public static void main(String[] args) {
        System.exit(run() == 0 ? 0 : 1);
    }

    static int run() {
        newObject();
        pins();
        places();
        bars();
        turns();
        alters();
        holds();
        loads();
        unloads();
        decks();
        strips();
        trains();
        counts();
        ofPins();
        atBars();
        return end("BuiltEdgeTest");
    }

    // ---- promise 1

    private static void newObject() {
        say(1, "No PINS.", () -> {
            PinFrame f = new PinFrame();
            due("pins", f.count(0), 0);
            none("of 0", u -> f.of(0, 0));
            due("first number", f.pin(0, 0), 0);
        });
        say(1, "No PINS.", () -> {
            PinFrame f = Frames.full();
            f.deck(1);
            f.train(77);
            PinFrame g = new PinFrame();
            due("another object's", g.count(0), 0);
            due("state of all", Frames.state(g), " count0=0 count1=0 count2=0 count3=0 count4=1 count5=0 count6=0"
                    + " count7=0 count8=0 count9=0 count10=0 rides,throws,throws,throws,throws,throws,throws,throws,throws,"
                    + "throws pull throws mend 0");
        });
        term("There is none.", () -> due("NONE", PinFrame.NONE, -1));
        term("An object is used for at most 512 calls after it has been made", () -> {
            PinFrame f = Frames.mast(3, 1);
            for (int calls = 8; calls <= 510; calls++) {
                due("call " + calls, f.pull(0, true), 3);
            }
            due("call 511", f.pull(0, false), 1);
            due("call 512", f.pull(0, true), 3);
        });
    }

    // ---- promise 2

    private static void pins() {
        say(2, "A PIN comes: its number.", () -> {
            PinFrame f = new PinFrame();
            for (int i = 0; i < 6; i++) {
                due("number", f.pin(i % 3, i / 3), i);
                due("pins", f.count(0), i + 1);
            }
        });
        term("PINS, at most 6, numbered from 0 on,", () -> {
            PinFrame f = Frames.sixPins();
            due("the first is 0", f.of(0, 0) * 10 + f.of(0, 1), 0);
            due("the last is 5", f.of(5, 0) * 10 + f.of(5, 1), 21);
            none("6", () -> f.of(6, 0));
            due("going away makes no room", f.place(0, 3, 2), true);
            due("six", f.pin(0, 0), NONE);
        });
        say(2, "NONE: there are 6;", () -> {
            PinFrame f = new PinFrame();
            for (int i = 0; i < 5; i++) {
                f.pin(i % 3, i / 3);
            }
            due("the sixth", f.pin(3, 2), 5);
            due("a seventh", f.pin(3, 1), NONE);
            due("a seventh at 0, 2", f.pin(0, 2), NONE);
            due("still", f.count(0), 6);
        });
        say(2, "no such place;", () -> {
            for (int x = -2; x <= 5; x++) {
                for (int y = -2; y <= 4; y++) {
                    PinFrame f = new PinFrame();
                    boolean there = x >= 0 && x <= 3 && y >= 0 && y <= 2;
                    due(x + " " + y, f.pin(x, y), there ? 0 : NONE);
                    due("pins", f.count(0), there ? 1 : 0);
                }
            }
        });
        say(2, "no such place;", () -> {
            PinFrame f = new PinFrame();
            for (int far : Frames.outside(4)) {
                due("x " + far, f.pin(far, 1), NONE);
            }
            for (int far : Frames.outside(3)) {
                due("y " + far, f.pin(1, far), NONE);
            }
            due("a place behind them", f.pin(1, 1), 0);
        });
        term("at x 0 to 3, y 0 to 2,", () -> {
            PinFrame f = new PinFrame();
            f.pin(3, 0);
            f.pin(0, 2);
            due("x 3", f.of(0, 0), 3);
            due("y 0", f.of(0, 1), 0);
            due("x 0", f.of(1, 0), 0);
            due("y 2", f.of(1, 1), 2);
        });
        say(2, "there is one.", () -> {
            PinFrame f = new PinFrame();
            f.pin(1, 2);
            due("the same place", f.pin(1, 2), NONE);
            due("x alone alike", f.pin(1, 1), 1);
            due("y alone alike", f.pin(2, 2), 2);
            due("the other way round", f.pin(2, 1), 3);
            due("there is the last one", f.pin(2, 1), NONE);
        });
        say(2, "there is one.", () -> {
            PinFrame f = new PinFrame();
            f.pin(1, 1);
            f.place(0, 3, 2);
            due("where it came from", f.pin(1, 1), 1);
            due("where it went", f.pin(3, 2), NONE);
        });
        term("no two at one place.", () -> {
            PinFrame f = new PinFrame();
            due("one", f.pin(0, 0), 0);
            due("two at its place", f.pin(0, 0), NONE);
            due("two", f.pin(0, 1), 1);
            due("both at one place", f.place(1, 0, 0), false);
            due("they change places", f.place(0, 3, 2) && f.place(1, 0, 0) && f.place(0, 0, 1), true);
            due("PIN 0", f.of(0, 1), 1);
            due("PIN 1", f.of(1, 1), 0);
        });
        say(2, "NONE: there are 6; no such place; there is one.", () -> {
            PinFrame f = Frames.triangle();
            String before = Frames.state(f);
            f.pin(4, 0);
            f.pin(0, 3);
            f.pin(2, 0);
            due("as it was", Frames.state(f), before);
            due("a refused one takes no number", f.pin(3, 0), 3);
        });
    }

    // ---- promise 3

    private static void places() {
        say(3, "A PIN goes to another place: true.", () -> {
            PinFrame f = Frames.sixPins();
            due("the first goes", f.place(0, 3, 2), true);
            due("the last goes", f.place(5, 0, 2), true);
            due("first", f.of(0, 0) * 10 + f.of(0, 1), 32);
            due("last", f.of(5, 0) * 10 + f.of(5, 1), 2);
            due("another stays", f.of(1, 0) * 10 + f.of(1, 1), 10);
        });
        say(3, "A PIN goes to another place: true.", () -> {
            PinFrame f = Frames.mast(1, 6);
            fraction("bears", u -> f.pull(0, u), 6, 1);
            f.place(1, 3, 0);
            fraction("further off it bears less", u -> f.pull(0, u), 2, 1);
            due("HOLDS go along", f.of(1, 4), 2);
            due("LOADS go along", f.of(1, 2), 6);
            due("BARS go along", f.of(1, 5), 1);
        });
        say(3, "false: there are none such,", () -> {
            PinFrame f = Frames.triangle();
            String before = Frames.state(f);
            for (int pin : Frames.outside(3)) {
                due("pin " + pin, f.place(pin, 3, 2), false);
            }
            due("as it was", Frames.state(f), before);
            due("pin 2", f.place(2, 3, 2), true);
            due("none at all", new PinFrame().place(0, 0, 0), false);
        });
        say(3, "false: there are none such,", () -> {
            PinFrame f = Frames.triangle();
            String before = Frames.state(f);
            for (int x : Frames.outside(4)) {
                due("x " + x, f.place(2, x, 2), false);
            }
            for (int y : Frames.outside(3)) {
                due("y " + y, f.place(2, 3, y), false);
            }
            due("as it was", Frames.state(f), before);
            due("x 3, y 0", f.place(2, 3, 0), true);
            due("x 0, y 2", f.place(2, 0, 2), true);
        });
        say(3, "one is there", () -> {
            PinFrame f = Frames.triangle();
            due("another one", f.place(2, 2, 0), false);
            due("stays", f.of(2, 0) * 10 + f.of(2, 1), 11);
            due("beside it", f.place(2, 3, 0), true);
            due("the other goes", f.place(1, 0, 2), true);
            due("then it may", f.place(2, 2, 0), true);
        });
        say(3, "(it, too).", () -> {
            PinFrame f = Frames.triangle();
            due("where it is", f.place(2, 1, 1), false);
            due("there and back", f.place(2, 1, 2) && f.place(2, 1, 1), true);
        });
    }

    // ---- promise 4

    private static void bars() {
        say(4, "A BAR comes: its number.", () -> {
            PinFrame f = Frames.sixPins();
            due("the first", f.bar(5, 0, 3), 0);
            due("its one PIN", f.at(0, 0), 5);
            due("its other one", f.at(0, 1), 0);
            due("the second", f.bar(0, 4, 1), 1);
            due("bars", f.count(1), 2);
        });
        say(4, "NONE: there are 11;", () -> {
            PinFrame f = Frames.sixPins();
            int number = 0;
            for (int one = 0; one < 6; one++) {
                for (int other = one + 1; other < 6; other++) {
                    due("bar " + one + " " + other, f.bar(one, other, 1), number < 11 ? number : NONE);
                    number++;
                }
            }
            due("bars", f.count(1), 11);
            due("all ON", f.count(2), 2047);
            f.turn(10, false);
            due("an OUT one is one of the 11", f.bar(4, 5, 1), NONE);
        });
        term("BARS, at most 11, numbered from 0 on:", () -> {
            PinFrame f = Frames.full();
            due("the first is 0", f.at(0, 0) * 10 + f.at(0, 1), 1);
            due("the last is 10", f.at(10, 0) * 10 + f.at(10, 1), 24);
            none("11", () -> f.at(11, 0));
            for (int bar = 0; bar < 11; bar++) {
                f.turn(bar, false);
            }
            due("all OUT make no room", f.bar(4, 5, 1), NONE);
        });
        term("each between two PINS (no two between the same),", () -> {
            PinFrame f = new PinFrame();
            f.pin(0, 0);
            due("one PIN alone", f.bar(0, 0, 1), NONE);
            f.pin(1, 0);
            due("two PINS", f.bar(1, 0, 1), 0);
            due("no second", f.bar(1, 0, 1), NONE);
            due("no second, the other way", f.bar(0, 1, 1), NONE);
            f.place(0, 3, 2);
            due("no second where it goes", f.bar(0, 1, 1), NONE);
        });
        say(4, "no such PINS,", () -> {
            PinFrame f = Frames.triangle();
            f.pin(3, 0);
            String before = Frames.state(f);
            for (int pin : Frames.outside(4)) {
                due("one " + pin, f.bar(pin, 0, 1), NONE);
                due("other " + pin, f.bar(0, pin, 1), NONE);
            }
            due("as it was", Frames.state(f), before);
            due("the last one", f.bar(3, 0, 1), 3);
            due("no PINS at all", new PinFrame().bar(0, 1, 1), NONE);
        });
        say(4, "GIVE;", () -> {
            PinFrame f = Frames.sixPins();
            due("give 0", f.bar(0, 1, 0), NONE);
            due("give 4", f.bar(0, 1, 4), NONE);
            due("give -1", f.bar(0, 1, -1), NONE);
            due("far", f.bar(0, 1, FAR), NONE);
            due("deep", f.bar(0, 1, DEEP), NONE);
            due("give 1", f.bar(0, 1, 1), 0);
            due("give 3", f.bar(0, 2, 3), 1);
            due("1", f.at(0, 2), 1);
            due("3", f.at(1, 2), 3);
        });
        say(4, "one PIN twice;", () -> {
            PinFrame f = Frames.sixPins();
            for (int pin = 0; pin < 6; pin++) {
                due("pin " + pin, f.bar(pin, pin, 1), NONE);
            }
            due("bars", f.count(1), 0);
        });
        say(4, "there is one between these.", () -> {
            PinFrame f = Frames.sixPins();
            f.bar(2, 4, 1);
            due("the same", f.bar(2, 4, 2), NONE);
            due("the other way", f.bar(4, 2, 1), NONE);
            due("one end alike", f.bar(2, 3, 1), 1);
            due("the other end alike", f.bar(4, 3, 1), 2);
            due("its GIVE stays", f.at(0, 2), 1);
        });
        say(4, "there is one between these.", () -> {
            PinFrame f = Frames.sixPins();
            f.bar(2, 4, 1);
            f.turn(0, false);
            due("an OUT one", f.bar(2, 4, 1), NONE);
            due("an OUT one, the other way", f.bar(4, 2, 1), NONE);
            due("is still OUT", f.at(0, 4), 0);
        });
        term("with a GIVE 1 to 3, a STRENGTH 1 to 999 (99 at first), ON (at first) or OUT.", () -> {
            PinFrame f = Frames.sixPins();
            f.bar(0, 1, 2);
            due("GIVE", f.at(0, 2), 2);
            due("STRENGTH", f.at(0, 3), 99);
            due("ON", f.at(0, 4), 1);
            f.alter(0, true, 7);
            f.turn(0, false);
            f.bar(0, 2, 1);
            due("STRENGTH of the next", f.at(1, 3), 99);
            due("the next is ON", f.at(1, 4), 1);
        });
    }

    // ---- promise 5

    private static void turns() {
        say(5, "A BAR is OUT, or (on) ON again: true.", () -> {
            PinFrame f = Frames.full();
            due("the first", f.turn(0, false), true);
            due("the last", f.turn(10, false), true);
            due("bits", f.count(2), 2046 - 1024);
            due("again", f.turn(10, true), true);
            due("bits", f.count(2), 2046);
        });
        say(5, "false: there is none such;", () -> {
            PinFrame f = Frames.triangle();
            String before = Frames.state(f);
            for (int bar : Frames.outside(3)) {
                due("out " + bar, f.turn(bar, false), false);
                due("on " + bar, f.turn(bar, true), false);
            }
            due("as it was", Frames.state(f), before);
            due("the last one", f.turn(2, false), true);
            due("no BARS", new PinFrame().turn(0, false), false);
        });
        say(5, "it is so.", () -> {
            PinFrame f = Frames.triangle();
            due("ON", f.turn(0, true), false);
            due("still", f.at(0, 4), 1);
            f.turn(0, false);
            due("OUT", f.turn(0, false), false);
            due("still", f.at(0, 4), 0);
        });
    }

    // ---- promise 6

    private static void alters() {
        say(6, "GIVE of a BAR, or (strength) STRENGTH is another number: true.", () -> {
            PinFrame f = Frames.triangle();
            due("GIVE", f.alter(1, false, 2), true);
            due("STRENGTH", f.alter(1, true, 2), true);
            due("GIVE alone", f.alter(1, false, 3), true);
            due("GIVE", f.at(1, 2), 3);
            due("STRENGTH", f.at(1, 3), 2);
            due("the one before", f.at(0, 2) * 1000 + f.at(0, 3), 1099);
            due("the one behind", f.at(2, 2) * 1000 + f.at(2, 3), 1099);
        });
        say(6, "false: there is none such;", () -> {
            PinFrame f = Frames.triangle();
            String before = Frames.state(f);
            for (int bar : Frames.outside(3)) {
                due("GIVE " + bar, f.alter(bar, false, 2), false);
                due("STRENGTH " + bar, f.alter(bar, true, 2), false);
            }
            due("as it was", Frames.state(f), before);
            due("the last one", f.alter(2, false, 2), true);
            due("no BARS", new PinFrame().alter(0, true, 2), false);
        });
        say(6, "it is so;", () -> {
            PinFrame f = Frames.triangle();
            due("GIVE 1", f.alter(0, false, 1), false);
            due("STRENGTH 99", f.alter(0, true, 99), false);
            due("STRENGTH 98", f.alter(0, true, 98), true);
            due("STRENGTH 98 again", f.alter(0, true, 98), false);
            due("STRENGTH 99 again", f.alter(0, true, 99), true);
        });
        say(6, "it can't be.", () -> {
            PinFrame f = Frames.triangle();
            due("GIVE 2", f.alter(0, false, 2), true);
            due("GIVE 0", f.alter(0, false, 0), false);
            due("GIVE 4", f.alter(0, false, 4), false);
            due("GIVE -1", f.alter(0, false, -1), false);
            due("GIVE far", f.alter(0, false, FAR), false);
            due("GIVE deep", f.alter(0, false, DEEP), false);
            due("stays", f.at(0, 2), 2);
            due("GIVE 1", f.alter(0, false, 1), true);
            due("GIVE 3", f.alter(0, false, 3), true);
        });
        say(6, "it can't be.", () -> {
            PinFrame f = Frames.triangle();
            due("STRENGTH 0", f.alter(0, true, 0), false);
            due("STRENGTH 1000", f.alter(0, true, 1000), false);
            due("STRENGTH -1", f.alter(0, true, -1), false);
            due("STRENGTH far", f.alter(0, true, FAR), false);
            due("STRENGTH deep", f.alter(0, true, DEEP), false);
            due("stays", f.at(0, 3), 99);
            due("STRENGTH 1", f.alter(0, true, 1), true);
            due("1", f.at(0, 3), 1);
            due("STRENGTH 999", f.alter(0, true, 999), true);
            due("999", f.at(0, 3), 999);
        });
    }

    // ---- promise 7

    private static void holds() {
        term("a PIN is held in x (direction 0), or in y (1), or both, or neither (at first).", () -> {
            PinFrame f = Frames.sixPins();
            for (int pin = 0; pin < 6; pin++) {
                due("at first", f.of(pin, 4), 0);
                due("x", f.hold(pin, 0, true), true);
                due("x", f.of(pin, 4), 1);
                due("y", f.hold(pin, 1, true), true);
                due("both", f.of(pin, 4), 3);
                due("not x", f.hold(pin, 0, false), true);
                due("y alone", f.of(pin, 4), 2);
                due("not y", f.hold(pin, 1, false), true);
                due("neither", f.of(pin, 4), 0);
            }
        });
        say(7, "A PIN is held in a direction, or (no hold) not any more: true.", () -> {
            PinFrame f = Frames.mast(1, 5);
            due("KIND", f.count(4), 1);
            due("let go", f.hold(1, 1, false), true);
            due("LOOSE", f.count(4), 0);
            due("held again", f.hold(1, 1, true), true);
            fraction("bears as before", u -> f.pull(0, u), 5, 1);
            due("held in x, too", f.hold(1, 0, true), true);
            fraction("bears nothing", u -> f.pull(0, u), 0, 1);
        });
        say(7, "false: there are none such;", () -> {
            PinFrame f = Frames.triangle();
            String before = Frames.state(f);
            for (int pin : Frames.outside(3)) {
                due("pin " + pin, f.hold(pin, 0, true), false);
                due("pin " + pin, f.hold(pin, 1, false), false);
            }
            due("as it was", Frames.state(f), before);
            due("the last one", f.hold(2, 1, true), true);
            due("no PINS", new PinFrame().hold(0, 0, true), false);
        });
        say(7, "false: there are none such;", () -> {
            PinFrame f = Frames.triangle();
            String before = Frames.state(f);
            for (int direction : Frames.outside(2)) {
                due("hold " + direction, f.hold(1, direction, true), false);
                due("let go " + direction, f.hold(1, direction, false), false);
            }
            due("as it was", Frames.state(f), before);
            due("direction 1", f.hold(1, 1, false), true);
            due("direction 0", f.hold(1, 0, true), true);
        });
        say(7, "it is so.", () -> {
            PinFrame f = Frames.triangle();
            due("held in x", f.hold(0, 0, true), false);
            due("held in y", f.hold(1, 1, true), false);
            due("not held in x", f.hold(1, 0, false), false);
            due("not held in y", f.hold(2, 1, false), false);
            due("stays", f.of(0, 4) * 100 + f.of(1, 4) * 10 + f.of(2, 4), 320);
        });
    }

    // ---- promise 8

    private static void loads() {
        term("LOADS: at each PIN in each direction -9 to 9 (0 at first).", () -> {
            PinFrame f = Frames.sixPins();
            for (int pin = 0; pin < 6; pin++) {
                due("x at first", f.of(pin, 2), 0);
                due("y at first", f.of(pin, 3), 0);
            }
        });
        say(8, "LOADS at a PIN are these: true.", () -> {
            PinFrame f = Frames.sixPins();
            due("-9 and 9", f.load(5, -9, 9), true);
            due("x", f.of(5, 2), -9);
            due("y", f.of(5, 3), 9);
            due("9 and -9", f.load(5, 9, -9), true);
            due("x", f.of(5, 2), 9);
            due("y", f.of(5, 3), -9);
            due("the same once more", f.load(5, 9, -9), true);
            due("0 and 0", f.load(5, 0, 0), true);
            due("x", f.of(5, 2), 0);
            due("y", f.of(5, 3), 0);
            due("not added", f.load(5, 4, 4) && f.load(5, 5, 5), true);
            due("x", f.of(5, 2), 5);
            due("another", f.of(4, 2), 0);
        });
        say(8, "false: there is none such;", () -> {
            PinFrame f = Frames.triangle();
            String before = Frames.state(f);
            for (int pin : Frames.outside(3)) {
                due("pin " + pin, f.load(pin, 1, 1), false);
            }
            due("as it was", Frames.state(f), before);
            due("the last one", f.load(2, 1, 1), true);
            due("no PINS", new PinFrame().load(0, 0, 0), false);
        });
        say(8, "a number that can't be.", () -> {
            PinFrame f = Frames.triangle();
            f.load(2, 3, -4);
            int[] numbers = {-10, 10, -11, 11, -19, 19, 247, 256, DEEP, FAR};
            for (int v : numbers) {
                due("x " + v, f.load(2, v, 1), false);
                due("y " + v, f.load(2, 1, v), false);
                due("both " + v, f.load(2, v, v), false);
            }
            due("x stays", f.of(2, 2), 3);
            due("y stays", f.of(2, 3), -4);
        });
    }

    // ---- promise 9

    private static void unloads() {
        say(9, "All LOADS are 0: how many were not.", () -> {
            PinFrame f = Frames.sixPins();
            due("none", f.unload(), 0);
            f.load(0, 0, 0);
            due("put to 0", f.unload(), 0);
            f.load(0, 1, 0);
            due("in x", f.unload(), 1);
            f.load(5, 0, -1);
            due("in y", f.unload(), 1);
            f.load(5, -9, 9);
            due("at one PIN in both", f.unload(), 2);
            due("none is left", f.unload(), 0);
        });
        say(9, "All LOADS are 0: how many were not.", () -> {
            PinFrame f = Frames.sixPins();
            Frames.fix(f, 0, true);
            for (int pin = 0; pin < 6; pin++) {
                f.load(pin, 9, -9);
            }
            due("all, held ones too", f.unload(), 12);
            for (int pin = 0; pin < 6; pin++) {
                due("x", f.of(pin, 2), 0);
                due("y", f.of(pin, 3), 0);
            }
            due("no PINS", new PinFrame().unload(), 0);
        });
        say(9, "All LOADS are 0", () -> {
            PinFrame f = Frames.mast(1, 5);
            f.unload();
            fraction("no PULL is left", u -> f.pull(0, u), 0, 1);
        });
    }

    // ---- promise 10

    private static void decks() {
        say(10, "A PIN comes behind those of the DECK: how many it has.", () -> {
            PinFrame f = Frames.sixPins();
            for (int i = 0; i < 6; i++) {
                due("many", f.deck(5 - i), i + 1);
                due("count", f.count(8), i + 1);
            }
        });
        say(10, "A PIN comes behind those of the DECK", () -> {
            PinFrame f = Frames.posts();
            f.train(7);
            f.deck(4);
            f.deck(5);
            f.deck(3);
            fraction("4 first", u -> f.riding(1, 0, u), -7, 1);
            fraction("then 5", u -> f.riding(2, 1, u), -7, 1);
            fraction("3 last", u -> f.riding(0, 2, u), -7, 1);
        });
        say(10, "NONE: there is none such;", () -> {
            PinFrame f = Frames.triangle();
            for (int pin : Frames.outside(3)) {
                due("pin " + pin, f.deck(pin), NONE);
            }
            due("none came", f.count(8), 0);
            due("the last one", f.deck(2), 1);
            due("no PINS", new PinFrame().deck(0), NONE);
        });
        say(10, "it is there.", () -> {
            PinFrame f = Frames.sixPins();
            f.deck(0);
            due("the only one", f.deck(0), NONE);
            for (int pin = 1; pin < 6; pin++) {
                f.deck(pin);
            }
            for (int pin = 0; pin < 6; pin++) {
                due("pin " + pin, f.deck(pin), NONE);
            }
            due("six", f.count(8), 6);
        });
        term("(no two alike, at most 6)", () -> {
            PinFrame f = Frames.sixPins();
            for (int pin = 0; pin < 5; pin++) {
                f.deck(pin);
            }
            due("five", f.count(8), 5);
            due("the sixth", f.deck(5), 6);
            due("there can't be a seventh", f.deck(6), NONE);
            due("six", f.count(8), 6);
        });
    }

    // ---- promise 11

    private static void strips() {
        say(11, "The DECK has no PINS: how many it had.", () -> {
            PinFrame f = Frames.sixPins();
            due("empty", f.strip(), 0);
            f.deck(3);
            due("one", f.strip(), 1);
            due("empty again", f.strip(), 0);
            for (int pin = 0; pin < 6; pin++) {
                f.deck(pin);
            }
            due("full", f.strip(), 6);
            due("no PINS", f.count(8), 0);
            due("PINS of the frame stay", f.count(0), 6);
            due("one may come again", f.deck(3), 1);
        });
        say(11, "The DECK has no PINS", () -> {
            PinFrame f = Frames.posts(12);
            f.strip();
            due("the TRAIN stays", f.count(9), 2);
            none("nothing to ride on", u -> f.riding(0, 0, u));
            f.deck(5);
            fraction("the new one alone", u -> f.riding(2, 1, u), -2, 1);
            fraction("the old ones do not count", u -> f.riding(0, 0, u), 0, 1);
        });
    }

    // ---- promise 12

    private static void trains() {
        say(12, "The TRAIN has these weights, of so many (1 to 4) digits of a number, the highest first: how many.", () -> {
            PinFrame f = Frames.sixPins();
            due("1", f.train(1), 1);
            due("9", f.train(9), 1);
            due("11", f.train(11), 2);
            due("99", f.train(99), 2);
            due("111", f.train(111), 3);
            due("999", f.train(999), 3);
            due("1111", f.train(1111), 4);
            due("9999", f.train(9999), 4);
            due("four", f.count(9), 4);
        });
        term("the TRAIN: 1 to 4 weights, 1 to 9 each.", () -> {
            PinFrame f = Frames.posts(1);
            due("1", f.riding(0, 0, false), -1);
            f.train(9191);
            due("9", f.riding(0, 0, false), -9);
            due("the fourth", f.riding(0, 3, false), -1);
            due("four", f.count(9), 4);
        });
        say(12, "the highest first", () -> {
            PinFrame f = Frames.posts(1928);
            due("1", f.riding(0, 0, false), -1);
            due("9", f.riding(0, 1, false), -9);
            due("2", f.riding(0, 2, false), -2);
            due("8", f.riding(0, 3, false), -8);
            f.train(34);
            due("3", f.riding(0, 0, false), -3);
            due("4", f.riding(0, 1, false), -4);
            due("those of before are gone", f.riding(0, 2, false), 0);
        });
        say(12, "NONE: it has another number of digits,", () -> {
            PinFrame f = Frames.posts(56);
            String before = Frames.state(f);
            int[] numbers = {11111, 12345, 99999, 123456, 1111111111, FAR, -1, -9, -12, -9999, -11111, DEEP, DEEP + 1};
            for (int digits : numbers) {
                due("" + digits, f.train(digits), NONE);
            }
            due("as it was", Frames.state(f), before);
            due("four", f.train(9999), 4);
        });
        say(12, "or a 0.", () -> {
            PinFrame f = Frames.posts(56);
            String before = Frames.state(f);
            int[] numbers = {0, 10, 90, 100, 101, 110, 1000, 1011, 1101, 1110, 9990, 9099, 10000, 10111};
            for (int digits : numbers) {
                due("" + digits, f.train(digits), NONE);
            }
            due("as it was", Frames.state(f), before);
        });
        say(12, "or a 0.", () -> {
            PinFrame f = new PinFrame();
            for (int digits = 0; digits <= 150; digits++) {
                boolean zero = Integer.toString(digits).indexOf('0') >= 0;
                due("" + digits, f.train(digits), zero ? NONE : Integer.toString(digits).length());
            }
            for (int digits = 9899; digits <= 10111; digits++) {
                boolean zero = Integer.toString(digits).indexOf('0') >= 0;
                due("" + digits, f.train(digits), zero || digits > 9999 ? NONE : 4);
            }
        });
    }

    // ---- promise 13

    private static void counts() {
        say(13, "NONE for another what.", () -> {
            PinFrame f = Frames.full();
            for (int what : Frames.outside(11)) {
                due("what " + what, f.count(what), NONE);
            }
            due("what 0", f.count(0), 6);
            due("what 10", f.count(10), 16 + 256);
        });
        say(13, "What 0: PINS, 1: BARS, 2: those ON, as bits,", () -> {
            PinFrame f = Frames.full();
            due("pins", f.count(0), 6);
            due("bars", f.count(1), 11);
            due("on", f.count(2), 2047);
            for (int bar = 0; bar < 11; bar++) {
                f.turn(bar, false);
                due("OUT up to " + bar, f.count(2), 2047 & -(2 << bar));
            }
            due("bars", f.count(1), 11);
        });
        say(13, "5: BASE, as bits, 6: SPARE ones, as bits,", () -> {
            PinFrame f = Frames.full();
            due("none held: 12 less 3", Integer.bitCount(f.count(5)), 9);
            due("spare", f.count(6), 2047 & ~f.count(5));
            for (int pin = 0; pin < 6; pin++) {
                Frames.fix(f, pin, true);
            }
            due("all held", f.count(5), 0);
            due("all spare", f.count(6), 2047);
        });
        say(13, "7: how many directions could go (FREE less BARS of the BASE),", () -> {
            PinFrame f = Frames.full();
            due("none held", f.count(7), 3);
            f.hold(0, 0, true);
            due("one held", f.count(7), 2);
            f.hold(0, 1, true);
            due("two held", f.count(7), 1);
            f.hold(5, 1, true);
            due("three held", f.count(7), 0);
            f.hold(5, 0, true);
            due("four held", f.count(7), 0);
            due("no BARS", Frames.sixPins().count(7), 12);
            due("no PINS", new PinFrame().count(7), 0);
        });
        say(13, "8: PINS of the DECK, 9: weights (0 at first),", () -> {
            PinFrame f = Frames.posts();
            due("no DECK", f.count(8), 0);
            due("0 at first", f.count(9), 0);
            f.deck(1);
            due("a DECK", f.count(8), 1);
            f.train(1234);
            due("weights", f.count(9), 4);
        });
        say(13, "10: KNOWN BARS behind all JOINTS, as bits.", () -> {
            PinFrame f = Frames.triangle();
            due("all", f.count(10), 7);
            f.hold(1, 0, true);
            due("two of three", f.count(10), 6);
            due("none", Frames.square().count(10), 0);
            due("no BARS", Frames.sixPins().count(10), 0);
            due("of a loose one", Frames.loose().count(10), 15);
        });
    }

    // ---- promises 14 and 15

    private static void ofPins() {
        say(14, "NoSuchElementException: there is none such,", () -> {
            PinFrame f = Frames.triangle();
            for (int pin : Frames.outside(3)) {
                for (int what = 0; what <= 5; what++) {
                    int asked = what;
                    none("pin " + pin, () -> f.of(pin, asked));
                }
            }
            due("the last one", f.of(2, 0), 1);
            none("no PINS", () -> new PinFrame().of(0, 0));
        });
        say(14, "another what.", () -> {
            PinFrame f = Frames.triangle();
            for (int what : Frames.outside(6)) {
                none("what " + what, () -> f.of(0, what));
            }
            due("what 5", f.of(0, 5), 3);
            due("what 0", f.of(1, 0), 2);
        });
        say(14, "4: held (1 in x, 2 in y, both 3), 5: BARS there that are ON, as bits.", () -> {
            PinFrame f = Frames.full();
            due("none held", f.of(5, 4), 0);
            due("first PIN's", f.of(0, 5), 31);
            due("last PIN's", f.of(5, 5), 16 + 256);
            f.turn(8, false);
            due("without the OUT one", f.of(5, 5), 16);
            f.turn(4, false);
            due("none is ON", f.of(5, 5), 0);
            due("no BARS", Frames.sixPins().of(5, 5), 0);
        });
    }

    private static void atBars() {
        say(15, "NoSuchElementException: there is none such,", () -> {
            PinFrame f = Frames.triangle();
            for (int bar : Frames.outside(3)) {
                for (int what = 0; what <= 5; what++) {
                    int asked = what;
                    none("bar " + bar, () -> f.at(bar, asked));
                }
            }
            due("the last one", f.at(2, 0), 1);
            none("no BARS", () -> new PinFrame().at(0, 0));
        });
        say(15, "another what.", () -> {
            PinFrame f = Frames.triangle();
            for (int what : Frames.outside(6)) {
                none("what " + what, () -> f.at(0, what));
            }
            due("what 5", f.at(0, 5), NONE);
            due("what 0", f.at(2, 0), 1);
        });
        say(15, "0: its one PIN, 1: its other one (as told),", () -> {
            PinFrame f = Frames.sixPins();
            f.bar(4, 1, 1);
            f.bar(0, 5, 1);
            due("the greater one first", f.at(0, 0) * 10 + f.at(0, 1), 41);
            due("the less one first", f.at(1, 0) * 10 + f.at(1, 1), 5);
            f.turn(0, false);
            due("of an OUT one", f.at(0, 0) * 10 + f.at(0, 1), 41);
        });
        say(15, "4: 1 if it is ON, else 0,", () -> {
            PinFrame f = Frames.triangle();
            due("ON", f.at(1, 4), 1);
            f.turn(1, false);
            due("OUT", f.at(1, 4), 0);
            due("the next is ON", f.at(2, 4), 1);
        });
        say(15, "5: its number among SPARE ones (NONE).", () -> {
            PinFrame f = Frames.fan(5);
            due("of the BASE", f.at(0, 5), NONE);
            for (int bar = 1; bar < 5; bar++) {
                due("spare", f.at(bar, 5), bar - 1);
            }
            f.turn(2, false);
            due("OUT", f.at(2, 5), NONE);
            due("the next one's", f.at(3, 5), 1);
            f.turn(0, false);
            due("BAR 1 is of the BASE now", f.at(1, 5), NONE);
            due("the first one", f.at(3, 5), 0);
        });
    }
}
