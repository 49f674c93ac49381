import java.io.IOException;
import java.lang.reflect.InvocationTargetException;
import java.lang.reflect.Method;
import java.lang.reflect.Modifier;
import java.nio.file.Files;
import java.nio.file.Path;
import java.util.regex.Matcher;
import java.util.regex.Pattern;

/** README.md shows each call of the face, and its lines answer what stands behind them (run where .ci/run runs it). */
public final class ReadmeTest extends Answers {
    private static final Pattern LINE = Pattern.compile("frame\\.(\\w+)\\((.*)\\); +// (throws \\w+|-?\\w+)[:,]?( .*)?");

    private final PinFrame frame = new PinFrame();

    public static void main(String[] args) throws IOException, IllegalAccessException {
        String text = Files.readString(Path.of("README.md"));
        head("README.md");
        ReadmeTest test = new ReadmeTest();
        String block = text.substring(text.indexOf("```java\n") + 8);
        for (String line : block.substring(0, block.indexOf("```")).split("\n")) {
            test.follow(line);
        }
        for (Method method : PinFrame.class.getDeclaredMethods()) {
            if (Modifier.isPublic(method.getModifiers())) {
                due("shows " + method.getName(), text.contains("`" + method.getName() + "`"), true);
            }
        }
        System.exit(end("ReadmeTest") == 0 ? 0 : 1);
    }

    private void follow(String line) throws IllegalAccessException {
        Matcher matcher = LINE.matcher(line);
        if (matcher.matches()) {
            due(line, answer(method(matcher.group(1)), matcher.group(2)), matcher.group(3));
        } else {
            boolean isNew = line.equals("PinFrame frame = new PinFrame();");
            due(line + " (can be read)", isNew || line.isEmpty() || line.startsWith("// "), true);
        }
    }

    private static Method method(String name) {
        for (Method method : PinFrame.class.getDeclaredMethods()) {
            if (method.getName().equals(name) && Modifier.isPublic(method.getModifiers())) {
                return method;
            }
        }
        throw new IllegalStateException("no call " + name);
    }

    private String answer(Method method, String told) throws IllegalAccessException {
        String[] texts = told.isEmpty() ? new String[0] : told.split(", ");
        Object[] arguments = new Object[texts.length];
        for (int i = 0; i < texts.length; i++) {
            boolean isTruth = method.getParameterTypes()[i] == boolean.class;
            if (isTruth) {
                arguments[i] = texts[i].equals("true");
            } else {
                arguments[i] = Integer.valueOf(texts[i]);
            }
        }
        try {
            return String.valueOf(method.invoke(frame, arguments));
        } catch (InvocationTargetException e) {
            return "throws " + e.getCause().getClass().getSimpleName();
        }
    }
}
