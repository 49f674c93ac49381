import java.io.IOException;
import java.nio.file.Files;
import java.nio.file.Path;
import java.util.Set;
import java.util.TreeSet;
import java.util.regex.Matcher;
import java.util.regex.Pattern;

/** The rules of LANGUAGE.md that can be read off the text of PinFrame.java (run where .ci/run runs it). */
public final class LanguageTest extends Answers {
    private static final Path SOURCE = Path.of("src/main/java/PinFrame.java");
    private static final Set<String> TYPES = Set.of("PinFrame", "NoSuchElementException", "Math", "Integer", "Long",
            "Override", "String", "StringBuilder", "Arrays", "System", "Frame", "Ride", "Balance", "Pulls", "Joints", "Cut",
            "Fraction");
    private static final int LONGEST_METHOD = 60;
    private static final int MOST_CLASSES = 12;

    public static void main(String[] args) throws IOException {
        String text = Files.readString(SOURCE);
        String code = withoutComments(text);
        rules(text, code);
        types(code);
        methods(code);
        classes(code);
        System.exit(end("LanguageTest") == 0 ? 0 : 1);
    }

    private static String withoutComments(String text) {
        return text.replaceAll("(?s)/\\*.*?\\*/", "").replaceAll("//[^\n]*", "");
    }

    /** How often the code has what a rule does not leave. */
    private static void never(int rule, String code, String pattern) {
        head("LANGUAGE.md, rule " + rule);
        Matcher matcher = Pattern.compile(pattern).matcher(code);
        due(pattern, matcher.find() ? "\"" + matcher.group() + "\"" : "none", "none");
    }

    private static void rules(String text, String code) {
        never(0, text, "[^\\x0a\\x20-\\x7e]");
        never(1, code, "(?m)^package|(?m)^    (protected|static|final|int|long|boolean|void) ");
        never(2, code, "->|::");
        never(3, code, "\\[\\]\\[\\]\\[\\]|(boolean|char|String|[A-Z]\\w*)\\[\\]\\[\\]|\\b(double|float)\\b");
        never(4, code, "Exact\\(|\\.(stream|format|valueOf|parseInt|toString|hashCode|equals|getClass)\\(");
        never(4, code, "import (?!java\\.util\\.NoSuchElementException;)");
        never(5, code, "\\bstatic\\s*\\{|static (?!final |class |int |long |boolean |void )");
        never(6, code, "\\b(try|catch|finally|synchronized|assert|instanceof|volatile|native)\\b");
        never(6, code, "throw (?!new NoSuchElementException\\(\\);)");
        never(10, code, "\"");
        never(11, code, "\\((?:[^(),{}]+,){7,}[^(),{}]+\\) \\{");
        never(12, code, "(?m)^ {12,}.*\\bnew (?!NoSuchElementException)");
        never(13, code, "System\\.(?!arraycopy)|Thread|Random|Clock");
    }

    private static void types(String code) {
        head("LANGUAGE.md, rule 4");
        Set<String> others = new TreeSet<>();
        Matcher matcher = Pattern.compile("\\b[A-Z]\\w*[a-z]\\w*").matcher(code);
        while (matcher.find()) {
            if (!TYPES.contains(matcher.group())) {
                others.add(matcher.group());
            }
        }
        due("other classes", others.toString(), "[]");
    }

    private static void methods(String code) {
        head("LANGUAGE.md, rule 11");
        Matcher matcher = Pattern.compile("(?ms)^( +)[^\n=;]*\\)[^\n=;]* \\{\n(.*?)^\\1\\}$").matcher(code);
        int longest = 0;
        int many = 0;
        while (matcher.find()) {
            boolean isMethod = !matcher.group().strip().matches("(?s)(if|for|while|switch|else|do)\\b.*");
            many += isMethod ? 1 : 0;
            longest = Math.max(longest, (int) matcher.group(2).lines().count());
        }
        due("longest method of " + many + " is short", longest <= LONGEST_METHOD && many >= 30, true);
    }

    private static void classes(String code) {
        head("LANGUAGE.md, rule 11");
        due("some twelve classes", code.split("\\bclass ").length - 1 <= MOST_CLASSES, true);
    }
}
