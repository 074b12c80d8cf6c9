import java.io.IOException;
import java.lang.reflect.Method;
import java.lang.reflect.Modifier;
import java.nio.file.Files;
import java.nio.file.Path;
import java.util.HashSet;
import java.util.Set;
import java.util.regex.Matcher;
import java.util.regex.Pattern;

/** What README.md says of the calls: its example answers as it tells, its table has every call. Run from the root. */
final class ReadmeTest {
    private static final Check CHECK = new Check("ReadmeTest");
    private static final Pattern TEXT = Pattern.compile("String text = \"([^\"]*)\";");
    private static final Pattern CALL = Pattern.compile("\nheaps\\.(\\w+)\\(([-\\d, ]*)\\); +// (-?\\d+)");

    public static void main(String[] args) throws IOException, ReflectiveOperationException {
        String page = Files.readString(Path.of("README.md"));
        example(page);
        table(page);
        CHECK.close();
    }

    private static void example(String page) throws ReflectiveOperationException {
        Matcher text = TEXT.matcher(page);
        CHECK.holds("the example has a text", text.find());
        FoldedHeaps heaps = new FoldedHeaps();
        Check.feed(heaps, text.group(1));
        Matcher call = CALL.matcher(page);
        int found = 0;
        while (call.find()) {
            found++;
            int got = answer(heaps, call.group(1), call.group(2));
            CHECK.due(call.group().trim(), Integer.parseInt(call.group(3)), got);
        }
        int lines = page.split("\nheaps\\.", -1).length - 1;
        CHECK.due("calls of the example that tell their answer", lines, found);
        CHECK.holds("the example calls something", found > 0);
    }

    private static int answer(FoldedHeaps heaps, String name, String list) throws ReflectiveOperationException {
        String[] words = list.isBlank() ? new String[0] : list.split(" *, *");
        Class<?>[] kinds = new Class<?>[words.length];
        Object[] arguments = new Object[words.length];
        for (int i = 0; i < words.length; i++) {
            kinds[i] = int.class;
            arguments[i] = Integer.valueOf(words[i].trim());
        }
        return (Integer) FoldedHeaps.class.getMethod(name, kinds).invoke(heaps, arguments);
    }

    private static void table(String page) {
        Set<String> named = new HashSet<>();
        Matcher row = Pattern.compile("\n\\| ((?:`\\w+` )+)\\|").matcher(page);
        while (row.find()) {
            for (String name : row.group(1).replace("`", "").trim().split(" ")) {
                CHECK.holds(name + " stands in the table once", named.add(name));
            }
        }
        Set<String> calls = new HashSet<>();
        for (Method m : FoldedHeaps.class.getDeclaredMethods()) {
            if (Modifier.isPublic(m.getModifiers())) {
                calls.add(m.getName());
            }
        }
        CHECK.holds("the table has every call and no other: " + named, named.equals(calls));
    }
}
