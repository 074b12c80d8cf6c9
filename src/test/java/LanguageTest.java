import java.io.IOException;
import java.lang.reflect.Field;
import java.lang.reflect.Method;
import java.lang.reflect.Modifier;
import java.nio.file.Files;
import java.nio.file.Path;
import java.util.Set;
import java.util.TreeSet;
import java.util.regex.Matcher;
import java.util.regex.Pattern;

/** What of ../shared/LANGUAGE.md can be seen in the source's text and in its classes. Run from the project's root. */
final class LanguageTest {
    private static final Check CHECK = new Check("LanguageTest");
    private static final Pattern METHOD =
        Pattern.compile("^    (?:    )?((?:public |private |static |final )*)([\\w\\[\\]]+ )?(\\w+)\\(([^()]*)\\) \\{$");
    private static final Set<String> CALLS = Set.of("System.arraycopy", "Arrays.fill", "Math.max", "Math.min");

    public static void main(String[] args) throws IOException {
        String source = Files.readString(Path.of("src/main/java/FoldedHeaps.java"));
        String code = source.replaceAll("(?s)/\\*.*?\\*/", "").replaceAll("//[^\n]*", "");
        words(code);
        library(code);
        methods(code.split("\n", -1));
        loops(code);
        names();
        fields(FoldedHeaps.class);
        for (Class<?> inside : FoldedHeaps.class.getDeclaredClasses()) {
            CHECK.holds(inside + " is static", Modifier.isStatic(inside.getModifiers()));
            fields(inside);
        }
        CHECK.close();
    }

    private static void words(String code) {
        String[] never = {"throw", "try", "catch", "finally", "synchronized", "assert", "package", "yield", "var",
            "Object", "Thread", "equals", "hashCode", "toString", "protected"};
        for (String word : never) {
            CHECK.holds("no " + word, !Pattern.compile("\\b" + word + "\\b").matcher(code).find());
        }
        CHECK.holds("no lambda", !code.contains("->"));
        CHECK.holds("no method reference", !code.contains("::"));
        CHECK.holds("ASCII alone", code.chars().allMatch(c -> c < 128));
        CHECK.holds("no static field that is not final",
            !Pattern.compile("\\bstatic (?!final\\b)[\\w\\[\\]]+ \\w+( =|;)").matcher(code).find());
        Matcher classes = Pattern.compile("\\b(class|enum|record|interface) \\w+").matcher(code);
        int found = 0;
        while (classes.find()) {
            found++;
        }
        CHECK.holds("some twelve classes: " + found, found <= 12);
        Matcher inside = Pattern.compile("\n    +(.*)\\bclass \\w+").matcher(code);
        while (inside.find()) {
            CHECK.due("a class inside: " + inside.group(1), 0, inside.group(1).equals("private static final ") ? 0 : 1);
        }
    }

    private static void library(String code) {
        Matcher imports = Pattern.compile("import ([^;]*);").matcher(code);
        while (imports.find()) {
            CHECK.holds("import " + imports.group(1), imports.group(1).equals("java.util.Arrays"));
        }
        Matcher calls = Pattern.compile("\\b([A-Z]\\w+\\.[a-z]\\w*)\\(").matcher(code);
        while (calls.find()) {
            CHECK.holds("the library has " + calls.group(1), CALLS.contains(calls.group(1)));
        }
        CHECK.holds("fill is for rows of numbers",
            !Pattern.compile("(fill|arraycopy)\\((\\w+\\.)?(many|kept|hasAll)\\b").matcher(code).find());
    }

    private static void methods(String[] lines) {
        int found = 0;
        for (int i = 0; i < lines.length; i++) {
            Matcher m = METHOD.matcher(lines[i]);
            if (!m.matches()) {
                continue;
            }
            found++;
            String close = lines[i].replaceAll("\\S.*", "") + "}";
            int end = i;
            while (end < lines.length && !lines[end].equals(close)) {
                end++;
            }
            CHECK.holds(m.group(3) + " is short: " + (end - i + 1), end - i < 60);
            int parameters = m.group(4).isEmpty() ? 0 : m.group(4).split(",").length;
            CHECK.holds(m.group(3) + " takes few: " + parameters, parameters <= 7);
        }
        CHECK.holds("methods were found: " + found, found > 60);
    }

    /** Rule 9: a loop without a condition has no end that its own lines show. */
    private static void loops(String code) {
        CHECK.holds("no while (true)", !Pattern.compile("while\\s*\\(\\s*true").matcher(code).find());
        CHECK.holds("no for without a bound", !Pattern.compile("for\\s*\\([^;()]*;\\s*;").matcher(code).find());
    }

    /** Rule 1: no method of the classes inside bears the name of a public one (FaceTest looks at the outer class). */
    private static void names() {
        Set<String> face = new TreeSet<>();
        for (Method m : FoldedHeaps.class.getDeclaredMethods()) {
            if (Modifier.isPublic(m.getModifiers())) {
                face.add(m.getName());
            }
        }
        for (Class<?> inside : FoldedHeaps.class.getDeclaredClasses()) {
            for (Method m : inside.getDeclaredMethods()) {
                CHECK.holds(m + " has a name of its own", !face.contains(m.getName()));
            }
        }
    }

    /** Rules 3, 5 and 11: kinds of fields, no static state, some twenty fields. */
    private static void fields(Class<?> owner) {
        int found = 0;
        for (Field f : owner.getDeclaredFields()) {
            if (Modifier.isStatic(f.getModifiers())) {
                CHECK.holds(f + " is a constant", Modifier.isFinal(f.getModifiers()) && f.getType() == int.class);
                continue;
            }
            found++;
            Class<?> kind = f.getType();
            int rows = 0;
            while (kind.isArray()) {
                kind = kind.getComponentType();
                rows++;
            }
            boolean own = kind.getEnclosingClass() == FoldedHeaps.class;
            boolean number = kind.isPrimitive() && kind != boolean.class;
            CHECK.holds(f + " is of a kind that the rules leave", rows < 2 ? own || kind.isPrimitive() : rows == 2 && number);
        }
        CHECK.holds(owner + " has few fields: " + found, found <= 20);
    }
}
