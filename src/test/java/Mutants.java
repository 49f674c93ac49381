import java.io.ByteArrayOutputStream;
import java.io.IOException;
import java.io.OutputStream;
import java.io.PrintStream;
import java.net.URI;
import java.nio.file.Files;
import java.nio.file.Path;
import java.util.ArrayList;
import java.util.HashMap;
import java.util.List;
import java.util.Map;
import java.util.concurrent.ExecutionException;
import java.util.concurrent.ExecutorService;
import java.util.concurrent.Executors;
import java.util.concurrent.Future;
import java.util.concurrent.TimeUnit;
import java.util.concurrent.TimeoutException;
import java.util.regex.Matcher;
import java.util.regex.Pattern;
import javax.tools.FileObject;
import javax.tools.ForwardingJavaFileManager;
import javax.tools.JavaCompiler;
import javax.tools.JavaFileManager;
import javax.tools.JavaFileObject;
import javax.tools.SimpleJavaFileObject;
import javax.tools.ToolProvider;

/**
 * A test of the tests, run by hand (README.md): breaks PinFrame.java in one place at a time and tells where no test by
 * hand finds it out. What it tells has to be looked at: many a change changes no answer.
 */
public final class Mutants {
    private static final String[] TESTS = {"BuiltEdgeTest", "BearEdgeTest", "CutEdgeTest", "RideEdgeTest", "TermsTest"};
    private static final int SECONDS = 30;
    private static final String[][] SWAPS = {
        {" < ", " <= "}, {" < ", " >= "}, {" <= ", " < "}, {" > ", " >= "}, {" > ", " <= "}, {" >= ", " > "}, {" >= ", " < "},
        {" == ", " != "}, {" != ", " == "}, {" && ", " || "}, {" || ", " && "}, {" + ", " - "}, {" - ", " + "}, {" * ", " + "},
        {" += ", " -= "}, {" += ", " = "}, {" |= ", " = "}, {" ^= ", " = "}, {" & ", " | "}, {" & ~", " & "}, {" ^ ", " & "},
        {" / ", " * "}, {" % ", " / "}, {" >> ", " << "}, {"++", "--"}, {"= -", "= "}, {"return -", "return "}, {"(-", "("},
        {"Math.min(", "Math.max("}, {"Math.abs(", "("}, {"true", "false"}, {"false", "true"}, {"return NONE", "return 0"},
    };

    private record Mutant(int at, String old, String now) {
        String of(String text) {
            return text.substring(0, at) + now + text.substring(at + old.length());
        }

        int line(String text) {
            return (int) text.substring(0, at).lines().count();
        }
    }

    private final String source;
    private final Path classes;
    private final ExecutorService runners = Executors.newCachedThreadPool(Mutants::daemon);

    private Mutants(String source, Path classes) {
        this.source = source;
        this.classes = classes;
    }

    /** The source, and where the classes of the tests are. */
    public static void main(String[] args) throws Exception {
        PrintStream out = System.out;
        System.setOut(new PrintStream(OutputStream.nullOutputStream()));
        Mutants mutants = new Mutants(Files.readString(Path.of(args[0])), Path.of(args[1]));
        mutants.tell(out);
        System.exit(0);
    }

    private static Thread daemon(Runnable work) {
        Thread thread = new Thread(work);
        thread.setDaemon(true);
        return thread;
    }

    private void tell(PrintStream out) throws InterruptedException, ExecutionException {
        ExecutorService judges = Executors.newFixedThreadPool(Runtime.getRuntime().availableProcessors(), Mutants::daemon);
        List<Mutant> all = all();
        List<Future<String>> fates = new ArrayList<>();
        for (Mutant mutant : all) {
            fates.add(judges.submit(() -> fate(mutant)));
        }
        Map<String, Integer> many = new HashMap<>();
        for (int i = 0; i < all.size(); i++) {
            String fate = fates.get(i).get();
            many.merge(fate, 1, Integer::sum);
            if (fate.equals("lives")) {
                Mutant mutant = all.get(i);
                out.println(mutant.line(source) + ": " + mutant.old.strip() + " => " + mutant.now.strip());
            }
        }
        out.println(all.size() + " mutants: " + many);
    }

    // ---- what is broken

    private List<Mutant> all() {
        List<Mutant> all = new ArrayList<>();
        String code = blankComments();
        for (String[] swap : SWAPS) {
            for (int at = code.indexOf(swap[0]); at >= 0; at = code.indexOf(swap[0], at + 1)) {
                all.add(new Mutant(at, swap[0], swap[1]));
            }
        }
        add(all, code, "!(?!=)", "");
        add(all, code, "(?m)(?<=^ {8})[^\\n{}]*(?<!final .{0,80});$", ";");
        add(all, code, "(?<=(?:if|while) \\()[^\\n]*(?=\\) \\{)", "true");
        add(all, code, "(?<=(?:if|while) \\()[^\\n]*(?=\\) \\{)", "false");
        String term = "[\\w.!]+(?:\\([^()\\n]*\\))?(?:\\[[^\\n]*?\\])?(?: (?:==|!=|<|>|<=|>=) [\\w.]+(?:\\[[^\\n]*?\\])?)?";
        add(all, code, " (?:&&|\\|\\|) " + term, "");
        add(all, code, term + " (?:&&|\\|\\|) ", "");
        Matcher numbers = Pattern.compile("(?<![\\w.])\\d+(?!\\w)").matcher(code);
        while (numbers.find()) {
            int number = Integer.parseInt(numbers.group());
            all.add(new Mutant(numbers.start(), numbers.group(), "" + (number + 1)));
            all.add(new Mutant(numbers.start(), numbers.group(), "(" + (number - 1) + ")"));
        }
        return all;
    }

    private static void add(List<Mutant> all, String code, String pattern, String now) {
        Matcher matcher = Pattern.compile(pattern).matcher(code);
        while (matcher.find()) {
            all.add(new Mutant(matcher.start(), matcher.group(), now));
        }
    }

    private String blankComments() {
        StringBuilder code = new StringBuilder(source);
        Matcher matcher = Pattern.compile("(?s)/\\*.*?\\*/|//[^\\n]*").matcher(source);
        while (matcher.find()) {
            for (int i = matcher.start(); i < matcher.end(); i++) {
                code.setCharAt(i, code.charAt(i) == '\n' ? '\n' : ' ');
            }
        }
        return code.toString();
    }

    // ---- what becomes of it

    private String fate(Mutant mutant) throws InterruptedException {
        Map<String, byte[]> made = compile(mutant.of(source));
        if (made.isEmpty()) {
            return "does not compile";
        }
        Future<Boolean> passes = runners.submit(() -> passes(made));
        try {
            return passes.get(SECONDS, TimeUnit.SECONDS) ? "lives" : "found out";
        } catch (TimeoutException e) {
            return "goes on too long";
        } catch (ExecutionException e) {
            return "found out";
        }
    }

    private boolean passes(Map<String, byte[]> made) throws ReflectiveOperationException {
        ClassLoader loader = new Apart(made);
        for (String test : TESTS) {
            var run = loader.loadClass(test).getDeclaredMethod("run");
            run.setAccessible(true);
            if (!run.invoke(null).equals(0)) {
                return false;
            }
        }
        return true;
    }

    /** Each mutant has tests of its own, as these count in static fields. */
    private final class Apart extends ClassLoader {
        private final Map<String, byte[]> made;

        Apart(Map<String, byte[]> made) {
            super(ClassLoader.getPlatformClassLoader());
            this.made = made;
        }

        @Override
        protected Class<?> findClass(String name) throws ClassNotFoundException {
            try {
                byte[] bytes = made.get(name);
                byte[] code = bytes == null ? Files.readAllBytes(classes.resolve(name + ".class")) : bytes;
                return defineClass(name, code, 0, code.length);
            } catch (IOException e) {
                throw new ClassNotFoundException(name, e);
            }
        }
    }

    /** No classes if it does not compile. */
    private static Map<String, byte[]> compile(String text) {
        JavaCompiler compiler = ToolProvider.getSystemJavaCompiler();
        Map<String, ByteArrayOutputStream> streams = new HashMap<>();
        var files = new ForwardingJavaFileManager<JavaFileManager>(compiler.getStandardFileManager(d -> { }, null, null)) {
            @Override
            public JavaFileObject getJavaFileForOutput(Location at, String name, JavaFileObject.Kind kind, FileObject by) {
                return new InMemory(name, kind, "") {
                    @Override
                    public OutputStream openOutputStream() {
                        return streams.computeIfAbsent(name, n -> new ByteArrayOutputStream());
                    }
                };
            }
        };
        JavaFileObject unit = new InMemory("PinFrame", JavaFileObject.Kind.SOURCE, text);
        List<String> options = List.of("-proc:none", "-Xlint:none");
        boolean compiles = compiler.getTask(null, files, d -> { }, options, null, List.of(unit)).call();
        Map<String, byte[]> made = new HashMap<>();
        if (compiles) {
            streams.forEach((name, stream) -> made.put(name, stream.toByteArray()));
        }
        return made;
    }

    private static class InMemory extends SimpleJavaFileObject {
        private final String text;

        InMemory(String name, JavaFileObject.Kind kind, String text) {
            super(URI.create("mem:///" + name.replace('$', '_') + kind.extension), kind);
            this.text = text;
        }

        @Override
        public CharSequence getCharContent(boolean ignoreEncodingErrors) {
            return text;
        }
    }
}
