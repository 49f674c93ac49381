import java.lang.management.ManagementFactory;
import java.lang.reflect.Constructor;
import java.lang.reflect.Field;
import java.lang.reflect.Method;
import java.lang.reflect.Modifier;
import java.util.Set;
import java.util.TreeSet;

/** The public face is the document's and no more, and calls make no objects. */
public final class FaceTest {
    private static final String THROWS = " throws java.util.NoSuchElementException";
    private static final Set<String> FACE = Set.of(
            "pin(int,int):int", "place(int,int,int):boolean", "bar(int,int,int):int", "turn(int,boolean):boolean",
            "alter(int,boolean,int):boolean", "hold(int,int,boolean):boolean", "load(int,int,int):boolean",
            "unload():int", "deck(int):int", "strip():int", "train(int):int", "count(int):int", "of(int,int):int" + THROWS,
            "at(int,int):int" + THROWS, "pull(int,boolean):long" + THROWS, "state(int,int,boolean):long" + THROWS,
            "flex(int,int,boolean):long" + THROWS, "force(int,int,boolean):long" + THROWS,
            "influence(int,int,int,boolean):long" + THROWS, "cut(int,int,boolean):long" + THROWS,
            "joint(int):int", "painted(int):int", "times():int", "riding(int,int,boolean):long" + THROWS, "worst(int):int",
            "without(int):int", "left(int,int,boolean):long" + THROWS, "keys():int", "mend(boolean):int");

    private static int wrong;

    public static void main(String[] args) {
        methods();
        members();
        room();
        System.out.println("FaceTest: " + wrong + " wrong");
        System.exit(wrong == 0 ? 0 : 1);
    }

    private static void methods() {
        Set<String> names = new TreeSet<>();
        for (String line : FACE) {
            names.add(line.substring(0, line.indexOf('(')));
        }
        Set<String> open = new TreeSet<>();
        for (Method method : PinFrame.class.getDeclaredMethods()) {
            boolean isPrivate = Modifier.isPrivate(method.getModifiers());
            if (!isPrivate) {
                open.add(signature(method));
                expect(Modifier.isPublic(method.getModifiers()), "not public: " + method);
                expect(!Modifier.isStatic(method.getModifiers()), "static: " + method);
            }
            expect(!isPrivate || !names.contains(method.getName()), "a private method is named as " + method.getName());
        }
        expect(open.equals(new TreeSet<>(FACE)), "the open methods are " + open);
    }

    private static String signature(Method method) {
        StringBuilder text = new StringBuilder(method.getName()).append('(');
        for (Class<?> type : method.getParameterTypes()) {
            text.append(text.charAt(text.length() - 1) == '(' ? "" : ",").append(type.getName());
        }
        expect(method.getParameterCount() <= 7, "too many parameters: " + method);
        text.append("):").append(method.getReturnType().getName());
        for (Class<?> type : method.getExceptionTypes()) {
            text.append(" throws ").append(type.getName());
        }
        return text.toString();
    }

    private static void members() {
        expect(Modifier.isFinal(PinFrame.class.getModifiers()), "the class is final");
        expect(Modifier.isPublic(PinFrame.class.getModifiers()), "the class is public");
        Constructor<?>[] constructors = PinFrame.class.getDeclaredConstructors();
        expect(constructors.length == 1 && Modifier.isPublic(constructors[0].getModifiers()), "one public constructor");
        expect(constructors[0].getParameterCount() == 0, "the constructor takes nothing");
        for (Field field : PinFrame.class.getDeclaredFields()) {
            boolean isNone = field.toString().equals("public static final int PinFrame.NONE");
            expect(isNone == !Modifier.isPrivate(field.getModifiers()), "open field " + field);
            expect(!Modifier.isStatic(field.getModifiers()) || Modifier.isFinal(field.getModifiers()), "state " + field);
        }
        for (Class<?> inner : PinFrame.class.getDeclaredClasses()) {
            int modifiers = inner.getModifiers();
            expect(Modifier.isStatic(modifiers) && Modifier.isPrivate(modifiers), "open class " + inner);
            expect(inner.getDeclaredFields().length <= 20, "too many fields in " + inner);
        }
    }

    /** All objects of all calls of a run live in one room: so they are made once, with the frame. */
    private static void room() {
        var threads = (com.sun.management.ThreadMXBean) ManagementFactory.getThreadMXBean();
        long self = Thread.currentThread().getId();
        askAll(dearFrame());
        PinFrame frame = dearFrame();
        long before = threads.getThreadAllocatedBytes(self);
        for (int i = 0; i < 20; i++) {
            askAll(frame);
        }
        long made = threads.getThreadAllocatedBytes(self) - before;
        expect(made < 10_000, "400 calls made " + made + " bytes");
        before = threads.getThreadAllocatedBytes(self);
        dearFrame();
        made = threads.getThreadAllocatedBytes(self) - before;
        expect(made < 20_000, "a new frame makes " + made + " bytes");
    }

    private static PinFrame dearFrame() {
        PinFrame frame = new PinFrame();
        for (int i = 0; i < 6; i++) {
            frame.pin(i / 2, i % 2);
        }
        frame.hold(0, 0, true);
        frame.hold(0, 1, true);
        frame.hold(1, 0, true);
        for (int i = 0; i + 1 < 6; i++) {
            frame.bar(i, i + 1, 1);
            frame.bar(i, (i + 2) % 6, 2);
        }
        frame.bar(0, 3, 3);
        frame.deck(1);
        frame.deck(3);
        frame.deck(5);
        frame.train(1234);
        frame.load(4, 7, -5);
        expect(frame.count(4) == 3, "the frame has two spare ones, but KIND " + frame.count(4));
        return frame;
    }

    private static void askAll(PinFrame frame) {
        for (int what = 0; what <= 10; what++) {
            frame.count(what);
        }
        frame.pull(3, false);
        frame.force(0, 1, true);
        frame.influence(2, 3, 1, false);
        frame.painted(1);
        frame.times();
        frame.riding(4, 2, false);
        frame.worst(4);
        frame.keys();
        frame.mend(true);
    }

    private static void expect(boolean holds, String what) {
        if (!holds) {
            wrong++;
            System.out.println("FaceTest: " + what);
        }
    }
}
