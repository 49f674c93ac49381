import java.util.NoSuchElementException;
import java.util.function.LongSupplier;

/** What the tests by hand share (they extend it): an answer that is not the one that is due is told and counted. */
abstract class Answers {
    interface Parts {
        long of(boolean under);
    }

    private static String head = "";
    private static int sentences;
    private static int asked;
    private static int wrong;

    static void head(String text) {
        head = text;
    }

    /** A sentence of a promise, and the calls that would tell if it were broken. */
    static void say(int promise, String words, Runnable calls) {
        sentence("promise " + promise, words, calls);
    }

    /** A sentence from outside the promises, likewise. */
    static void term(String words, Runnable calls) {
        sentence("terms", words, calls);
    }

    private static void sentence(String where, String words, Runnable calls) {
        head(where + " \"" + words + "\"");
        sentences++;
        int before = asked;
        try {
            calls.run();
        } catch (RuntimeException e) {
            tell("a call threw " + e);
        }
        if (asked == before) {
            tell("nothing was asked");
        }
    }

    static void due(String call, long got, long want) {
        asked++;
        if (got != want) {
            tell(call + ": " + got + ", due is " + want);
        }
    }

    static void due(String call, boolean got, boolean want) {
        due(call, got ? 1 : 0, want ? 1 : 0);
    }

    static void due(String call, String got, String want) {
        asked++;
        if (!got.equals(want)) {
            tell(call + ": " + got + ", due is " + want);
        }
    }

    static void fraction(String call, Parts parts, long over, long under) {
        due(call + " (over)", parts.of(false), over);
        due(call + " (under)", parts.of(true), under);
    }

    /** The call throws the one exception that the document names, whichever part is asked. */
    static void none(String call, Parts parts) {
        none(call, () -> parts.of(false));
        none(call + ", under", () -> parts.of(true));
    }

    static void none(String call, LongSupplier calls) {
        boolean thrown = false;
        try {
            calls.getAsLong();
        } catch (NoSuchElementException e) {
            thrown = e.getClass() == NoSuchElementException.class;
        }
        due(call + " throws", thrown, true);
    }

    private static void tell(String what) {
        wrong++;
        System.out.println(head + ", " + what);
    }

    /** How many were wrong since the last end. */
    static int end(String test) {
        String quoted = sentences > 0 ? sentences + " sentences, " : "";
        System.out.println(test + ": " + quoted + asked + " answers, " + wrong + " wrong");
        int were = wrong;
        sentences = 0;
        asked = 0;
        wrong = 0;
        return were;
    }
}
