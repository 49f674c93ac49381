import java.util.NoSuchElementException;
import java.util.function.LongSupplier;

/** The frames that the tests by hand build: small enough to say by head what each BAR bears. */
final class Frames {
    static final int NONE = PinFrame.NONE;
    static final int FAR = Integer.MAX_VALUE;
    static final int DEEP = Integer.MIN_VALUE;

    /** Numbers that name nothing in a frame of these many, those included that a shift or a mask would wrap into it. */
    static int[] outside(int many) {
        return new int[] {many, many + 1, 32, 33, 64, 256, 1 << 16, FAR, FAR - 1, -1, -2, -32, -256, DEEP, DEEP + 1};
    }

    /** Like outside, but without NONE, where that has a meaning of its own. */
    static int[] outsideButNone(int many) {
        return new int[] {many, many + 1, 32, 33, 64, 256, 1 << 16, FAR, -2, -32, -256, DEEP, DEEP + 1};
    }

    private Frames() {
    }

    /** Both directions, or (hold false) neither. */
    static void fix(PinFrame f, int pin, boolean hold) {
        f.hold(pin, 0, hold);
        f.hold(pin, 1, hold);
    }

    /** KIND 1: BAR 0 lies between the held PINS 0 and 1, BARS 1 and 2 meet in PIN 2 above. */
    static PinFrame triangle() {
        PinFrame f = new PinFrame();
        f.pin(0, 0);
        f.pin(2, 0);
        f.pin(1, 1);
        f.bar(0, 1, 1);
        f.bar(0, 2, 1);
        f.bar(1, 2, 1);
        fix(f, 0, true);
        f.hold(1, 1, true);
        return f;
    }

    /** KIND 2: a square with both diagonals; PIN 2, its upper right one, is drawn by 6 in x. */
    static PinFrame square() {
        PinFrame f = new PinFrame();
        f.pin(0, 0);
        f.pin(2, 0);
        f.pin(2, 2);
        f.pin(0, 2);
        f.bar(0, 1, 1);
        f.bar(1, 2, 1);
        f.bar(2, 3, 1);
        f.bar(3, 0, 1);
        f.bar(0, 2, 1);
        f.bar(1, 3, 1);
        fix(f, 0, true);
        f.hold(1, 1, true);
        f.load(2, 6, 0);
        return f;
    }

    /** KIND 3: the square, PIN 1 held in both directions: BAR 0 is the first SPARE one, BAR 5 the other. */
    static PinFrame stiffer() {
        PinFrame f = square();
        f.hold(1, 0, true);
        return f;
    }

    /** KIND 4: the square, three PINS held. */
    static PinFrame stiffest() {
        PinFrame f = stiffer();
        fix(f, 3, true);
        return f;
    }

    /** KIND 0: the square without its diagonals. */
    static PinFrame loose() {
        PinFrame f = square();
        f.turn(4, false);
        f.turn(5, false);
        return f;
    }

    /** Six PINS in two rows, none held, no BARS. */
    static PinFrame sixPins() {
        PinFrame f = new PinFrame();
        for (int i = 0; i < 6; i++) {
            f.pin(i % 3, i / 3);
        }
        return f;
    }

    /** Six PINS, eleven BARS, so that nothing more can come. */
    static PinFrame full() {
        PinFrame f = sixPins();
        for (int one = 0; one < 6; one++) {
            for (int other = one + 1; other < 6; other++) {
                f.bar(one, other, 1);
            }
        }
        return f;
    }

    /**
     * PIN 0 at x 1 can go in x alone; BARS of a GIVE of 1 run from it to held PINS that stand -1, 2, 1, 1, -1 in x
     * from it, as many as asked for. FREE is 1, so KIND is their number, or 4. Drawn by L each of two BARS bears L/5 times
     * (1, -2), each of three L/6 times (1, -2, -1).
     */
    static PinFrame fan(int many) {
        PinFrame f = new PinFrame();
        f.pin(1, 0);
        f.pin(0, 0);
        f.pin(3, 0);
        f.pin(2, 1);
        f.pin(2, 2);
        f.pin(0, 1);
        f.hold(0, 1, true);
        for (int i = 1; i < 6; i++) {
            fix(f, i, true);
            if (i <= many) {
                f.bar(0, i, 1);
            }
        }
        return f;
    }

    /** One BAR from a held PIN to PIN 1, to the right of it by long; drawn by L it bears L / long. */
    static PinFrame mast(int length, int load) {
        PinFrame f = new PinFrame();
        f.pin(0, 0);
        f.pin(length, 0);
        f.bar(0, 1, 1);
        fix(f, 0, true);
        f.hold(1, 1, true);
        f.load(1, load, 0);
        return f;
    }

    /** PINS 3, 4, 5 stand on held ones by BARS 0, 1, 2 of a length of 1: each bears -1 times the weight on it. */
    static PinFrame posts() {
        PinFrame f = sixPins();
        for (int i = 0; i < 3; i++) {
            fix(f, i, true);
            f.hold(i + 3, 0, true);
            f.bar(i, i + 3, 1);
        }
        return f;
    }

    /** Posts with a DECK over all three and a TRAIN. */
    static PinFrame posts(int train) {
        PinFrame f = posts();
        for (int i = 3; i < 6; i++) {
            f.deck(i);
        }
        f.train(train);
        return f;
    }

    /** KIND 3 with as many BARS as can be, BAR 0 far from the first PINS, GIVES and LOADS of all sorts; BARS 9 and 10 are SPARE. */
    static PinFrame rich() {
        PinFrame f = new PinFrame();
        int[] places = {0, 0, 0, 2, 1, 1, 2, 0, 2, 2, 3, 1};
        int[] ends = {2, 3, 4, 3, 3, 5, 5, 4, 2, 4, 2, 1, 2, 0, 1, 4, 0, 3, 0, 1, 1, 3};
        for (int pin = 0; pin < 6; pin++) {
            f.pin(places[2 * pin], places[2 * pin + 1]);
            f.load(pin, 9 - 3 * pin, 2 * pin - 7);
        }
        for (int bar = 0; bar < 11; bar++) {
            f.bar(ends[2 * bar], ends[2 * bar + 1], 1 + bar * bar % 3 + bar % 2);
        }
        f.hold(0, 0, true);
        f.hold(1, 0, true);
        f.hold(5, 1, true);
        return f;
    }

    /** All that can be asked of a frame's state, in some 150 calls at most. */
    static String state(PinFrame f) {
        StringBuilder text = new StringBuilder();
        for (int what = 0; what <= 10; what++) {
            text.append(" count").append(what).append('=').append(f.count(what));
        }
        for (int pin = 0; pin < f.count(0); pin++) {
            text.append(" pin").append(pin);
            for (int what = 0; what <= 5; what++) {
                text.append(',').append(f.of(pin, what));
            }
        }
        for (int bar = 0; bar < f.count(1); bar++) {
            text.append(" bar").append(bar);
            for (int what = 0; what <= 5; what++) {
                text.append(',').append(f.at(bar, what));
            }
        }
        text.append(" rides");
        for (int t = 0; t < 9; t++) {
            int at = t;
            text.append(',').append(orThrows(() -> f.riding(0, at, false)));
        }
        text.append(" pull ").append(orThrows(() -> f.pull(0, false)));
        text.append(" mend ").append(f.mend(true));
        return text.toString();
    }

    private static String orThrows(LongSupplier call) {
        try {
            return Long.toString(call.getAsLong());
        } catch (NoSuchElementException e) {
            return "throws";
        }
    }
}
