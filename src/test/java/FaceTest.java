import java.io.IOException;
import java.lang.management.ManagementFactory;
import java.lang.reflect.Constructor;
import java.lang.reflect.Field;
import java.lang.reflect.Method;
import java.lang.reflect.Modifier;
import java.nio.file.Files;
import java.nio.file.Path;
import java.util.ArrayList;
import java.util.Arrays;
import java.util.List;
import java.util.TreeSet;
import java.util.regex.Matcher;
import java.util.regex.Pattern;

/** The public face is the document's and no more; calls with any arguments never throw and make nothing new. */
final class FaceTest {
    private static final Check CHECK = new Check("FaceTest");
    private static final String[] METHODS = {"feed 1", "end 1", "text 0", "fault 0", "rule 1", "node 2", "pair 3",
        "held 1", "ask 1", "formula 2", "add 1", "lose 1", "many 2", "place 3", "lead 3", "deed 3", "fold 1",
        "sharpen 0", "ways 1", "split 2", "run 2", "keep 1", "back 1", "covers 2", "sheet 3", "lay 3", "read 4",
        "torn 0", "count 1"};
    private static final int[] ODD = {0, 1, -1, 2, 3, 6, 7, 13, 20, 40, 320, Integer.MAX_VALUE, Integer.MIN_VALUE,
        Integer.MAX_VALUE - 1, -320};

    public static void main(String[] args) throws IOException, ReflectiveOperationException {
        document();
        face();
        constants();
        oddArguments();
        room();
        CHECK.close();
    }

    /** The face that this test asks for is that which stands in the document. */
    private static void document() throws IOException {
        String text = Files.readString(Path.of("../shared/DOC.md"));
        CHECK.holds("the constants stand there",
            text.contains("public static final int BAD = -1, STATE = -2, FULL = -3, NONE = -4;"));
        List<String> methods = new ArrayList<>();
        Matcher call = Pattern.compile("\n    public int (\\w+)\\(([^)]*)\\);").matcher(text);
        while (call.find()) {
            methods.add(call.group(1) + " " + (call.group(2).isEmpty() ? 0 : call.group(2).split(",").length));
        }
        CHECK.holds("the methods stand there: " + methods, methods.equals(Arrays.asList(METHODS)));
    }

    private static void face() {
        CHECK.holds("the class is public and final", Modifier.toString(FoldedHeaps.class.getModifiers()).equals("public final"));
        List<String> methods = new ArrayList<>();
        for (Method m : FoldedHeaps.class.getDeclaredMethods()) {
            if (Modifier.isPrivate(m.getModifiers())) {
                CHECK.holds("no private method is called " + m.getName(),
                    Arrays.stream(METHODS).noneMatch(f -> f.startsWith(m.getName() + " ")));
                continue;
            }
            CHECK.holds(m + " is public int of ints", Modifier.toString(m.getModifiers()).equals("public")
                && m.getReturnType() == int.class
                && Arrays.stream(m.getParameterTypes()).allMatch(t -> t == int.class));
            methods.add(m.getName() + " " + m.getParameterCount());
        }
        CHECK.holds("the methods are the document's",
            new TreeSet<>(methods).equals(new TreeSet<>(Arrays.asList(METHODS))) && methods.size() == METHODS.length);
        Constructor<?>[] made = FoldedHeaps.class.getDeclaredConstructors();
        CHECK.holds("one public constructor without arguments", made.length == 1 && made[0].getParameterCount() == 0
            && Modifier.isPublic(made[0].getModifiers()));
        for (Field f : FoldedHeaps.class.getDeclaredFields()) {
            boolean isPublic = f.getName().matches("BAD|STATE|FULL|NONE");
            CHECK.holds(f + " is public just as a constant of the document", isPublic
                ? Modifier.toString(f.getModifiers()).equals("public static final") && f.getType() == int.class
                : Modifier.isPrivate(f.getModifiers()));
        }
    }

    private static void constants() {
        CHECK.due("BAD", -1, FoldedHeaps.BAD);
        CHECK.due("STATE", -2, FoldedHeaps.STATE);
        CHECK.due("FULL", -3, FoldedHeaps.FULL);
        CHECK.due("NONE", -4, FoldedHeaps.NONE);
    }

    private static void oddArguments() throws ReflectiveOperationException {
        String[] texts = {"", "node;many;at x 0 maybe;at x 1 maybe;next 0 1;ask all a some b:next a b;",
            "many;many;many;many;many;many;at y 5 maybe;next 5 5 maybe;"};
        for (String text : texts) {
            for (Method m : FoldedHeaps.class.getMethods()) {
                if (m.getDeclaringClass() == FoldedHeaps.class) {
                    callWithOdd(text, m);
                }
            }
        }
    }

    private static void callWithOdd(String text, Method m) throws ReflectiveOperationException {
        int n = m.getParameterCount();
        int all = (int) Math.pow(ODD.length, n);
        FoldedHeaps x = Check.told(text);
        x.keep(0);
        x.sheet(1, 1, 40);
        for (int k = 0; k < all; k++) {
            Object[] arguments = new Object[n];
            int rest = k;
            for (int i = 0; i < n; i++) {
                arguments[i] = ODD[rest % ODD.length];
                rest /= ODD.length;
            }
            int answer = (Integer) m.invoke(x, arguments);
            boolean goesBelow = m.getName().equals("text") || m.getName().equals("read")
                || m.getName().equals("sheet") || m.getName().equals("lay");
            CHECK.holds(m.getName() + Arrays.toString(arguments) + " answers " + answer, answer >= -4 || goesBelow);
        }
    }

    /** All rows are made with the object: calls make none. */
    private static void room() {
        com.sun.management.ThreadMXBean bean = (com.sun.management.ThreadMXBean) ManagementFactory.getThreadMXBean();
        if (!bean.isThreadAllocatedMemorySupported()) {
            return;
        }
        String text = "many;node;many;at x 0;at y 1 maybe;next 0 1;next 1 2 maybe;ask all a all b some c:next a b;";
        allCalls(Check.told(text), text);
        FoldedHeaps x = new FoldedHeaps();
        long before = bean.getCurrentThreadAllocatedBytes();
        for (int i = 0; i < 1000; i++) {
            allCalls(x, text);
        }
        long made = bean.getCurrentThreadAllocatedBytes() - before;
        CHECK.holds("1000 rounds of all calls make next to nothing: " + made + " bytes", made < 10_000);
    }

    private static int allCalls(FoldedHeaps x, String text) {
        int sum = Check.tell(x, text) + x.end(0) + x.fault() + x.rule(7) + x.node(1, 4) + x.pair(0, 1, 1) + x.held(0);
        sum += x.ask(0) + x.formula(0, 1) + x.add(1) + x.lose(3) + x.many(0, 1) + x.place(0, 0, 1) + x.lead(0, 0, 1);
        sum += x.keep(0) + x.deed(2, 1, 0) + x.ways(0) + x.split(0, 2) + x.run(5, 20) + x.fold(1) + x.sharpen();
        sum += x.covers(0, 0) + x.covers(0, 1) + x.back(0) + x.sheet(0, 0, 40) + x.lay(0, 3, 5) + x.read(0, 0, 0, 13);
        return sum + x.torn() + x.count(0) + x.count(1) + x.count(2) + x.count(3);
    }
}
