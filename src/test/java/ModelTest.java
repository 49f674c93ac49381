import java.util.Arrays;
import java.util.List;
import java.util.NoSuchElementException;
import java.util.function.Function;
import java.util.stream.IntStream;

/** Long made-up runs of calls, each answered by PinFrame and by PlainFrame: the answers must be the same. */
public final class ModelTest {
    private static final int RUNS = 3000;
    /** A turn makes up to five calls, and none may be the 513th. */
    private static final int CALLS = 508;

    /** Always the same numbers: a run that fails can be looked at again. */
    private static final class Numbers {
        private long state;

        Numbers(long seed) {
            state = seed * 0x9E3779B97F4A7C15L + 1;
        }

        int below(int bound) {
            state = state * 6364136223846793005L + 1442695040888963407L;
            return (int) ((state >>> 33) % bound);
        }

        /** Of from..to, and now and then one next to these. */
        int near(int from, int to) {
            int wide = below(12) == 0 ? 1 : 0;
            return from - wide + below(to - from + 1 + 2 * wide);
        }

        boolean flip() {
            return below(2) == 0;
        }
    }

    private final PinFrame frame = new PinFrame();
    private final PlainFrame plain = new PlainFrame();
    private final StringBuilder told = new StringBuilder();
    private final Numbers numbers;
    private int calls;
    private int wrong;

    private int kind = PlainFrame.NONE;

    private ModelTest(long seed) {
        numbers = new Numbers(seed);
    }

    public static void main(String[] args) {
        List<ModelTest> tests = IntStream.range(0, RUNS).parallel().mapToObj(ModelTest::run).toList();
        int wrong = 0;
        int calls = 0;
        int[] kinds = new int[5];
        for (ModelTest test : tests) {
            wrong += test.wrong;
            calls += test.calls;
            if (test.kind != PlainFrame.NONE) {
                kinds[test.kind]++;
            }
            if (test.wrong > 0 && wrong < 5) {
                System.out.println(test.told);
            }
        }
        System.out.println("ModelTest: " + calls + " calls, " + wrong + " wrong, frames by KIND " + Arrays.toString(kinds));
        for (int many : kinds) {
            wrong += many < RUNS / 60 ? 1 : 0;
        }
        System.exit(wrong == 0 ? 0 : 1);
    }

    private static ModelTest run(int number) {
        ModelTest test = new ModelTest(number);
        if (number % 4 == 0) {
            test.anyCalls();
        } else {
            test.stiffFrame();
        }
        return test;
    }

    private void anyCalls() {
        while (calls < CALLS && wrong == 0) {
            if (numbers.below(3) == 0) {
                change();
            } else {
                ask();
            }
        }
    }

    private void stiffFrame() {
        layPins();
        layHolds();
        layBars();
        layLoads();
        kind = plain.count(4);
        while (calls < CALLS && wrong == 0) {
            if (numbers.below(25) == 0) {
                change();
            } else {
                ask();
            }
        }
    }

    private void layPins() {
        int pins = 2 + numbers.below(5);
        for (int i = 0; i < 40 && plain.count(0) < pins; i++) {
            int x = numbers.below(4);
            int y = numbers.below(3);
            compare("pin " + x + " " + y, f -> f.pin(x, y), p -> p.pin(x, y));
        }
    }

    private void layHolds() {
        int pins = plain.count(0);
        int most = Math.min(11, pins * (pins - 1) / 2) - numbers.below(6);
        for (int i = 0; i < 200 && plain.count(3) > most; i++) {
            int pin = numbers.below(pins);
            int direction = numbers.below(2);
            compare("hold " + pin + " " + direction, f -> f.hold(pin, direction, true), p -> p.hold(pin, direction, true));
        }
    }

    /** As many BARS as make it stiff, and a few more; of those that do not help some are OUT. */
    private void layBars() {
        int more = numbers.below(10);
        for (int i = 0; i < 200 && plain.count(1) < 11 && (plain.count(7) > 0 || more > 0); i++) {
            int one = numbers.below(6);
            int other = numbers.below(6);
            int give = 1 + numbers.below(3);
            more -= plain.count(7) == 0 ? 1 : 0;
            compare("bar " + one + " " + other + " " + give, f -> f.bar(one, other, give), p -> p.bar(one, other, give));
            int last = plain.count(1) - 1;
            if (Integer.bitCount(plain.count(6)) > 2 && numbers.flip()) {
                compare("turn " + last + " false", f -> f.turn(last, false), p -> p.turn(last, false));
            }
        }
    }

    private void layLoads() {
        for (int pin = 0; pin < plain.count(0); pin++) {
            int at = pin;
            int x = numbers.below(19) - 9;
            int y = numbers.below(19) - 9;
            compare("load " + at + " " + x + " " + y, f -> f.load(at, x, y), p -> p.load(at, x, y));
        }
    }

    private void change() {
        int a = numbers.near(0, 5);
        int b = numbers.near(0, 5);
        int c = numbers.near(1, 3);
        int bar = numbers.near(0, 10);
        int direction = numbers.near(0, 1);
        boolean yes = numbers.flip();
        int x = numbers.near(0, 3);
        int y = numbers.near(0, 2);
        int inX = numbers.near(-9, 9);
        int inY = numbers.near(-9, 9);
        int strength = numbers.flip() ? numbers.near(1, 12) : numbers.near(995, 999);
        int digits = digits();
        switch (numbers.below(14)) {
            case 0, 1 -> compare("pin " + x + " " + y, f -> f.pin(x, y), p -> p.pin(x, y));
            case 2 -> compare("place " + a + " " + x + " " + y, f -> f.place(a, x, y), p -> p.place(a, x, y));
            case 3, 4, 5 -> compare("bar " + a + " " + b + " " + c, f -> f.bar(a, b, c), p -> p.bar(a, b, c));
            case 6 -> compare("turn " + bar + " " + yes, f -> f.turn(bar, yes), p -> p.turn(bar, yes));
            case 7 -> compare("alter " + bar + " false " + c, f -> f.alter(bar, false, c), p -> p.alter(bar, false, c));
            case 8 -> compare("alter " + bar + " true " + strength,
                    f -> f.alter(bar, true, strength), p -> p.alter(bar, true, strength));
            case 9 -> compare("hold " + a + " " + direction + " " + yes,
                    f -> f.hold(a, direction, yes), p -> p.hold(a, direction, yes));
            case 10 -> compare("load " + a + " " + inX + " " + inY, f -> f.load(a, inX, inY), p -> p.load(a, inX, inY));
            case 11 -> compare("deck " + a, f -> f.deck(a), p -> p.deck(a));
            case 12 -> compare("train " + digits, f -> f.train(digits), p -> p.train(digits));
            default -> seldom();
        }
    }

    private void seldom() {
        switch (numbers.below(8)) {
            case 0 -> compare("unload", f -> f.unload(), p -> p.unload());
            case 1 -> compare("strip", f -> f.strip(), p -> p.strip());
            default -> compare("deck 1", f -> f.deck(1), p -> p.deck(1));
        }
    }

    private int digits() {
        int digits = 0;
        for (int i = numbers.near(1, 4); i > 0; i--) {
            digits = 10 * digits + (numbers.below(12) == 0 ? 0 : 1 + numbers.below(9));
        }
        return numbers.below(12) == 0 ? -digits : digits;
    }

    private void ask() {
        int bar = numbers.near(0, Math.max(0, plain.count(1) - 1));
        int other = numbers.near(0, Math.max(0, plain.count(1) - 1));
        int pin = numbers.near(0, Math.max(0, plain.count(0) - 1));
        int direction = numbers.near(0, 1);
        int k = numbers.near(-1, 1);
        int j = numbers.near(-1, 1);
        boolean under = numbers.flip();
        int t = numbers.near(0, 8);
        int set = numbers.near(0, (1 << plain.count(0)) - 1);
        int what = numbers.near(0, 10);
        int detail = numbers.near(0, 5);
        int sign = numbers.near(-1, 2);
        switch (numbers.below(17)) {
            case 0 -> compare("count " + what, f -> f.count(what), p -> p.count(what));
            case 1 -> compare("of " + pin + " " + detail, f -> f.of(pin, detail), p -> p.of(pin, detail));
            case 2 -> compare("at " + bar + " " + detail, f -> f.at(bar, detail), p -> p.at(bar, detail));
            case 3 -> compare("pull " + bar + " " + under, f -> f.pull(bar, under), p -> p.pull(bar, under));
            case 4 -> compare("state " + k + " " + bar + " " + under, f -> f.state(k, bar, under), p -> p.state(k, bar, under));
            case 5 -> compare("flex " + k + " " + j + " " + under, f -> f.flex(k, j, under), p -> p.flex(k, j, under));
            case 6 -> compare("force " + pin + " " + direction + " " + under,
                    f -> f.force(pin, direction, under), p -> p.force(pin, direction, under));
            case 7 -> compare("influence " + bar + " " + pin + " " + direction + " " + under,
                    f -> f.influence(bar, pin, direction, under), p -> p.influence(bar, pin, direction, under));
            case 8 -> compare("cut " + set + " " + bar + " " + under, f -> f.cut(set, bar, under), p -> p.cut(set, bar, under));
            case 9 -> compare("joint " + detail, f -> f.joint(detail), p -> p.joint(detail));
            case 10 -> compare("painted " + sign, f -> f.painted(sign), p -> p.painted(sign));
            case 11 -> compare("times", f -> f.times(), p -> p.times());
            case 12 -> compare("riding " + bar + " " + t + " " + under, f -> f.riding(bar, t, under), p -> p.riding(bar, t, under));
            case 13 -> compare("worst " + bar, f -> f.worst(bar), p -> p.worst(bar));
            case 14 -> compare("without " + bar, f -> f.without(bar), p -> p.without(bar));
            case 15 -> compare("left " + bar + " " + other + " " + under,
                    f -> f.left(bar, other, under), p -> p.left(bar, other, under));
            default -> sets();
        }
    }

    private void sets() {
        boolean bits = numbers.flip();
        switch (numbers.below(3)) {
            case 0 -> compare("keys", f -> f.keys(), p -> p.keys());
            case 1 -> compare("mend " + bits, f -> f.mend(bits), p -> p.mend(bits));
            default -> {
                int k = numbers.below(20) == 0 ? Integer.MAX_VALUE : Integer.MIN_VALUE;
                compare("joint " + k, f -> f.joint(k), p -> p.joint(k));
                compare("count " + k, f -> f.count(k), p -> p.count(k));
                compare("painted " + k, f -> f.painted(k), p -> p.painted(k));
                compare("worst " + k, f -> f.worst(k), p -> p.worst(k));
                compare("without " + k, f -> f.without(k), p -> p.without(k));
            }
        }
    }

    private void compare(String call, Function<PinFrame, Object> ours, Function<PlainFrame, Object> theirs) {
        calls++;
        String due = answer(theirs, plain);
        String got = answer(ours, frame);
        told.append(call).append(" -> ").append(got).append('\n');
        if (!due.equals(got)) {
            wrong++;
            told.append("due is ").append(due).append('\n');
        }
    }

    private static <T> String answer(Function<T, Object> asked, T of) {
        try {
            return String.valueOf(asked.apply(of));
        } catch (NoSuchElementException e) {
            return "throws";
        }
    }
}
