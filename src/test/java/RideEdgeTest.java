/** Promises 25 to 30, trains and frames without a BAR: each sentence that names a boundary case. */
public final class RideEdgeTest extends Answers {
    private static final int NONE = PinFrame.NONE;

    public static void main(String[] args) {
        System.exit(run() == 0 ? 0 : 1);
    }

    static int run() {
        stands();
        ridings();
        worsts();
        worstRefused();
        withouts();
        lefts();
        leftRefused();
        keys();
        mends();
        mendsByNone();
        return end("RideEdgeTest");
    }

    /**
     * PIN 0 over PIN 1, a BAR between them, each on a BAR of its own to a held PIN: a weight on PIN 0 brings
     * -1/3 of it to BAR 0, one on PIN 1 1/3. Both are the DECK.
     */
    private static PinFrame spring(int train) {
        PinFrame f = new PinFrame();
        f.pin(1, 2);
        f.pin(1, 1);
        f.pin(0, 1);
        f.pin(0, 0);
        f.hold(0, 0, true);
        f.hold(1, 0, true);
        Frames.fix(f, 2, true);
        Frames.fix(f, 3, true);
        f.bar(0, 1, 1);
        f.bar(0, 2, 1);
        f.bar(1, 3, 1);
        f.deck(0);
        f.deck(1);
        f.train(train);
        return f;
    }

    // ---- promise 25

    private static void stands() {
        term("if its first weight stands on the DECK's PIN number t, the next one on t less 1, and so on,", () -> {
            PinFrame f = Frames.posts(1234);
            int[] train = {1, 2, 3, 4};
            for (int t = 0; t <= 5; t++) {
                for (int post = 0; post < 3; post++) {
                    int at = t;
                    int bar = post;
                    boolean stood = t - post >= 0 && t - post < 4;
                    fraction("post " + post + " at " + t, u -> f.riding(bar, at, u), stood ? -train[t - post] : 0, 1);
                }
            }
        });
        term("those below 0 and above the last one not there;", () -> {
            PinFrame f = Frames.posts(9999);
            fraction("at 0 one stands", u -> f.riding(0, 0, u), -9, 1);
            fraction("none on the second", u -> f.riding(1, 0, u), 0, 1);
            fraction("none on the last", u -> f.riding(2, 0, u), 0, 1);
            fraction("at 5 the last one stands", u -> f.riding(2, 5, u), -9, 1);
            fraction("none on the second", u -> f.riding(1, 5, u), 0, 1);
            fraction("none on the first", u -> f.riding(0, 5, u), 0, 1);
            fraction("at 3 the first is gone", u -> f.riding(2, 3, u), -9, 1);
        });
        term("t from 0 to (the DECK's PINS and the weights together, less 2).", () -> {
            int[] trains = {5, 55, 555, 5555};
            for (int pins = 1; pins <= 6; pins++) {
                PinFrame f = Frames.posts();
                for (int i = 0; i < pins; i++) {
                    f.deck((i + 3) % 6);
                }
                for (int weights = 1; weights <= 4; weights++) {
                    f.train(trains[weights - 1]);
                    int last = pins + weights - 2;
                    none("below", () -> f.riding(0, -1, false));
                    fraction("0 of " + last, u -> f.riding(0, 0, u), -5, 1);
                    fraction("the last, " + last, u -> f.riding(0, last, u), last < weights ? -5 : 0, 1);
                    none("behind " + last, () -> f.riding(0, last + 1, false));
                }
            }
        });
        term("A weight brings -1 times it in direction 1; no other LOADS.", () -> {
            PinFrame f = Frames.posts(7);
            f.load(3, 9, 9);
            f.load(4, 9, -9);
            fraction("the weight alone", u -> f.riding(0, 0, u), -7, 1);
            fraction("no LOADS", u -> f.riding(1, 0, u), 0, 1);
            due("LOADS stay", f.of(3, 2) * 10 + f.of(3, 3), 99);
            fraction("LOADS stay", u -> f.pull(1, u), -9, 1);
            PinFrame g = Frames.fan(1);
            g.deck(0);
            g.train(9);
            fraction("nothing in x", u -> g.riding(0, 0, u), 0, 1);
        });
    }

    private static void ridings() {
        say(25, "NoSuchElementException: as pull();", () -> {
            PinFrame f = Frames.posts(5);
            for (int bar : Frames.outside(3)) {
                none("bar " + bar, u -> f.riding(bar, 0, u));
            }
            fraction("the last one", u -> f.riding(2, 2, u), -5, 1);
            f.hold(5, 1, true);
            f.turn(2, false);
            none("OUT", u -> f.riding(2, 2, u));
            fraction("the others", u -> f.riding(1, 1, u), -5, 1);
            f.hold(5, 1, false);
            none("KIND 0", u -> f.riding(1, 1, u));
        });
        say(25, "NoSuchElementException: as pull();", () -> {
            PinFrame f = Frames.fan(4);
            f.deck(0);
            f.train(1);
            none("KIND 4", u -> f.riding(0, 0, u));
            f.turn(3, false);
            fraction("KIND 3", u -> f.riding(0, 0, u), 0, 1);
        });
        say(25, "no such t;", () -> {
            PinFrame f = Frames.posts(12);
            for (int t : Frames.outside(4)) {
                none("t " + t, u -> f.riding(0, t, u));
            }
            fraction("t 3", u -> f.riding(2, 3, u), -2, 1);
            fraction("t 0", u -> f.riding(0, 0, u), -1, 1);
        });
        say(25, "no DECK,", () -> {
            PinFrame f = Frames.posts();
            f.train(12);
            none("none yet", u -> f.riding(0, 0, u));
            none("none yet, as if one weight less", u -> f.riding(0, 1, u));
            f.deck(3);
            fraction("one", u -> f.riding(0, 0, u), -1, 1);
            fraction("one, the last t", u -> f.riding(0, 1, u), -2, 1);
            f.strip();
            none("not any more", u -> f.riding(0, 0, u));
        });
        say(25, "no TRAIN.", () -> {
            PinFrame f = Frames.posts();
            f.deck(3);
            f.deck(4);
            f.deck(5);
            none("none yet", u -> f.riding(0, 0, u));
            none("none yet", u -> f.riding(0, 1, u));
            f.train(0);
            none("a refused one is none", u -> f.riding(0, 0, u));
            f.train(1);
            fraction("one weight", u -> f.riding(0, 0, u), -1, 1);
            fraction("one weight, the last t", u -> f.riding(2, 2, u), -1, 1);
        });
    }

    // ---- promise 26

    private static void worsts() {
        term("WORST of a BAR: the t by which its PULL without its sign is greatest", () -> {
            PinFrame f = spring(12);
            fraction("at 0", u -> f.riding(0, 0, u), -1, 3);
            fraction("at 1", u -> f.riding(0, 1, u), -1, 3);
            fraction("at 2", u -> f.riding(0, 2, u), 2, 3);
            due("above 0", f.worst(0), 2);
            PinFrame g = spring(21);
            fraction("at 0", u -> g.riding(0, 0, u), -2, 3);
            fraction("at 1", u -> g.riding(0, 1, u), 1, 3);
            due("below 0", g.worst(0), 0);
            due("-4/3 at 0 and at 1", g.worst(1), 0);
            g.train(11);
            due("-1 between -2/3 and -1/3", g.worst(1), 1);
        });
        term("(of like ones the least).", () -> {
            PinFrame f = spring(11);
            fraction("at 0", u -> f.riding(0, 0, u), -1, 3);
            fraction("at 1", u -> f.riding(0, 1, u), 0, 1);
            fraction("at 2", u -> f.riding(0, 2, u), 1, 3);
            due("1/3 is like -1/3", f.worst(0), 0);
            PinFrame g = Frames.posts(2992);
            due("first post", g.worst(0), 1);
            due("second post", g.worst(1), 2);
            due("last post", g.worst(2), 3);
            g.train(9);
            due("one weight", g.worst(2), 2);
            g.train(5559);
            due("the last t", g.worst(2), 5);
        });
        term("(of like ones the least).", () -> {
            PinFrame f = Frames.posts(9);
            f.strip();
            f.deck(0);
            f.deck(1);
            due("no PULL at any t", f.worst(2), 0);
            f.strip();
            f.deck(5);
            due("one t alone", f.worst(2), 0);
            f.strip();
            for (int pin = 0; pin < 6; pin++) {
                f.deck(pin);
            }
            f.train(1119);
            due("the last t of the longest", f.worst(2), 8);
        });
        say(26, "WORST of a BAR.", () -> {
            PinFrame f = Frames.posts(19);
            f.load(3, 0, -9);
            due("LOADS do not count", f.worst(0), 1);
            due("LOADS stay", f.of(3, 3), -9);
        });
    }

    private static void worstRefused() {
        say(26, "NONE: there is none such, it is OUT;", () -> {
            PinFrame f = Frames.posts(5);
            for (int bar : Frames.outside(3)) {
                due("bar " + bar, f.worst(bar), NONE);
            }
            due("the last one", f.worst(2), 2);
            f.hold(5, 1, true);
            f.turn(2, false);
            due("OUT", f.worst(2), NONE);
            due("the one before", f.worst(1), 1);
            due("no BARS", new PinFrame().worst(0), NONE);
        });
        say(26, "KIND 0 or 4;", () -> {
            PinFrame f = Frames.fan(4);
            f.deck(0);
            f.train(1);
            due("KIND 4", f.worst(0), NONE);
            f.turn(3, false);
            due("KIND 3", f.worst(0), 0);
            f.turn(2, false);
            f.turn(1, false);
            due("KIND 1", f.worst(0), 0);
            f.hold(0, 1, false);
            due("KIND 0", f.worst(0), NONE);
        });
        say(26, "no DECK, no TRAIN.", () -> {
            PinFrame f = Frames.posts();
            due("neither", f.worst(0), NONE);
            f.deck(3);
            due("no TRAIN", f.worst(0), NONE);
            f.train(10);
            due("a refused TRAIN", f.worst(0), NONE);
            f.train(1);
            due("both", f.worst(0), 0);
            f.strip();
            due("no DECK", f.worst(0), NONE);
        });
    }

    // ---- promises 27 and 28

    private static void withouts() {
        say(27, "KIND, were a BAR OUT.", () -> {
            int[] due = {0, 1, 2, 3, 4};
            for (int many = 1; many <= 5; many++) {
                PinFrame f = Frames.fan(many);
                String before = Frames.state(f);
                for (int bar = 0; bar < many; bar++) {
                    due("one of " + many, f.without(bar), due[many - 1]);
                }
                due("nothing changes", Frames.state(f), before);
            }
            due("LOOSE stays so", Frames.loose().without(0), 0);
        });
        say(27, "NONE: there is none such,", () -> {
            PinFrame f = Frames.triangle();
            for (int bar : Frames.outside(3)) {
                due("bar " + bar, f.without(bar), NONE);
            }
            due("the last one", f.without(2), 0);
            due("no BARS", new PinFrame().without(0), NONE);
            PinFrame g = Frames.full();
            due("the eleventh", g.without(10), 0);
            due("a twelfth", g.without(11), NONE);
        });
        say(27, "it is OUT.", () -> {
            PinFrame f = Frames.fan(2);
            f.turn(1, false);
            due("OUT", f.without(1), NONE);
            due("the other one", f.without(0), 0);
            f.turn(1, true);
            due("ON again", f.without(1), 1);
        });
    }

    private static void lefts() {
        say(28, "PULL of another BAR then", () -> {
            PinFrame f = Frames.fan(3);
            f.load(0, 6, 0);
            String before = Frames.state(f);
            fraction("without 0", u -> f.left(0, 1, u), -12, 5);
            fraction("without 0", u -> f.left(0, 2, u), -6, 5);
            fraction("without 1", u -> f.left(1, 0, u), 3, 1);
            fraction("without 1", u -> f.left(1, 2, u), -3, 1);
            fraction("without 2", u -> f.left(2, 0, u), 6, 5);
            fraction("without 2", u -> f.left(2, 1, u), -12, 5);
            due("nothing changes", Frames.state(f), before);
        });
        say(28, "KIND 0 or 4 then.", () -> {
            PinFrame f = Frames.fan(5);
            f.load(0, 6, 0);
            none("KIND 4 then", u -> f.left(4, 0, u));
            f.turn(4, false);
            none("KIND 4 itself", u -> f.pull(0, u));
            fraction("KIND 3 then", u -> f.left(3, 0, u), 1, 1);
            f.turn(3, false);
            f.turn(2, false);
            fraction("KIND 1 then", u -> f.left(1, 0, u), 6, 1);
            PinFrame g = Frames.triangle();
            none("KIND 0 then", u -> g.left(0, 1, u));
            g.turn(0, false);
            none("KIND 0 itself", u -> g.left(2, 1, u));
        });
    }

    private static void leftRefused() {
        say(28, "NoSuchElementException: there are none such,", () -> {
            PinFrame f = Frames.fan(3);
            for (int bar : Frames.outside(3)) {
                none("bar " + bar, u -> f.left(bar, 0, u));
                none("other " + bar, u -> f.left(0, bar, u));
            }
            fraction("the last one", u -> f.left(2, 0, u), 0, 1);
            fraction("the other last one", u -> f.left(0, 2, u), 0, 1);
            none("no BARS", u -> new PinFrame().left(0, 1, u));
        });
        say(28, "one is OUT,", () -> {
            PinFrame f = Frames.fan(3);
            f.turn(1, false);
            none("the one", u -> f.left(1, 0, u));
            none("the other", u -> f.left(0, 1, u));
            fraction("both ON", u -> f.left(0, 2, u), 0, 1);
            f.turn(1, true);
            fraction("ON again", u -> f.left(1, 0, u), 0, 1);
        });
        say(28, "they are one;", () -> {
            PinFrame f = Frames.fan(3);
            for (int bar = 0; bar < 3; bar++) {
                int one = bar;
                none("bar " + one, u -> f.left(one, one, u));
            }
            fraction("two", u -> f.left(0, 1, u), 0, 1);
        });
    }

    // ---- promises 29 and 30

    private static void keys() {
        say(29, "BARS ON without which it would be LOOSE, as bits", () -> {
            due("all", Frames.triangle().keys(), 7);
            due("KIND 1", Frames.fan(1).keys(), 1);
            due("KIND 2", Frames.fan(2).keys(), 0);
            PinFrame f = Frames.fan(2);
            f.turn(0, false);
            due("the one that is ON", f.keys(), 2);
            due("none can go", Frames.stiffest().keys(), 0);
            due("no PINS", new PinFrame().keys(), 0);
        });
        say(29, "BARS ON without which it would be LOOSE, as bits", () -> {
            PinFrame f = Frames.fan(4);
            f.hold(5, 1, false);
            due("LOOSE", f.keys(), 0);
            f.bar(5, 1, 1);
            due("KIND", f.count(4), 4);
            due("of KIND 4", f.keys(), 16);
            f.turn(1, false);
            f.turn(2, false);
            due("of KIND 2", f.keys(), 16);
            f.turn(3, false);
            due("of KIND 1", f.keys(), 17);
            for (int bar = 0; bar < 5; bar += 4) {
                due("without " + bar, f.without(bar), 0);
            }
        });
        say(29, "(0 if it is).", () -> {
            due("LOOSE", Frames.loose().keys(), 0);
            PinFrame f = Frames.fan(1);
            f.turn(0, false);
            due("no BAR ON", f.keys(), 0);
            f.turn(0, true);
            f.hold(0, 1, false);
            due("one BAR, LOOSE", f.keys(), 0);
            due("PINS alone", Frames.sixPins().keys(), 0);
        });
    }

    private static void mend(String call, PinFrame f, int bits) {
        String before = Frames.state(f);
        due(call, f.mend(false), bits == NONE ? NONE : Integer.bitCount(bits));
        due(call + " (bits)", f.mend(true), bits);
        due(call + " (nothing changes)", Frames.state(f), before);
    }

    private static void mends() {
        say(30, "The fewest BARS of those OUT that, ON again, would make it not LOOSE: how many,", () -> {
            int[] due = {16, 17, 19, 23, 31};
            for (int out = 0; out <= 4; out++) {
                PinFrame f = Frames.loose();
                for (int bar = 0; bar < out; bar++) {
                    f.turn(bar, false);
                }
                mend((out + 1) + " of " + (out + 2), f, due[out]);
            }
        });
        say(30, "or (bits) the least set of so many, as bits.", () -> {
            PinFrame f = Frames.fan(5);
            for (int bar = 0; bar < 5; bar++) {
                f.turn(bar, false);
            }
            mend("any of five", f, 1);
            f.turn(1, true);
            mend("not LOOSE", f, 0);
        });
        say(30, "or (bits) the least set of so many, as bits.", () -> {
            PinFrame f = Frames.fan(5);
            f.hold(5, 1, false);
            f.place(5, 0, 2);
            for (int bar = 0; bar < 5; bar++) {
                f.turn(bar, false);
            }
            due("two could go", f.count(7), 2);
            mend("the last one helps more, not alone", f, 17);
            f.turn(0, true);
            mend("the last one alone", f, 16);
        });
        say(30, "The fewest BARS of those OUT", () -> {
            PinFrame f = Frames.stiffer();
            f.turn(0, false);
            f.turn(4, false);
            f.turn(5, false);
            mend("the first does not help", f, 16);
            mend("not LOOSE, none OUT", Frames.square(), 0);
            mend("no PINS", new PinFrame(), 0);
            PinFrame g = Frames.stiffest();
            g.turn(3, false);
            mend("KIND 4, one OUT", g, 0);
        });
    }

    private static void mendsByNone() {
        say(30, "NONE: by none.", () -> {
            mend("no BARS", Frames.fan(0), NONE);
            mend("no BARS, nothing held", Frames.sixPins(), NONE);
            mend("none OUT", Frames.full(), NONE);
            PinFrame f = Frames.triangle();
            f.hold(1, 1, false);
            mend("all ON do not do", f, NONE);
            for (int bar = 0; bar < 3; bar++) {
                f.turn(bar, false);
            }
            mend("all OUT do not do", f, NONE);
            f.hold(1, 1, true);
            mend("all OUT do", f, 7);
        });
    }
}
