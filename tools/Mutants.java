import java.io.IOException;
import java.nio.file.Files;
import java.nio.file.Path;
import java.util.ArrayList;
import java.util.Comparator;
import java.util.List;
import java.util.concurrent.ExecutorService;
import java.util.concurrent.Executors;
import java.util.concurrent.Future;
import java.util.concurrent.TimeUnit;
import java.util.regex.Matcher;
import java.util.regex.Pattern;
import java.util.stream.Stream;
import javax.tools.ToolProvider;

/**
 * Breaks the class in one place at a time and tells which breaks a test does not find: java tools/Mutants.java [TEST].
 * It takes some ten minutes on eight cores, so .ci/run leaves it out. A break that changes no answer is never found.
 */
final class Mutants {
    private static final String SOURCE = "src/main/java/FoldedHeaps.java";
    /** What is put in place of a part of a line. */
    private static final String[][] PARTS = {{" < ", " <= "}, {" <= ", " < "}, {" > ", " >= "}, {" >= ", " > "},
        {" == ", " != "}, {" != ", " == "}, {" && ", " || "}, {" \\|\\| ", " && "}, {" \\+ ", " - "}, {" - ", " + "},
        {"\\+\\+", "--"}, {"--", "++"}, {"Math\\.max", "Math.min"}, {"Math\\.min", "Math.max"}, {"\\btrue\\b", "false"},
        {"\\bfalse\\b", "true"}, {"\\bNO\\b", "MAYBE"}, {"\\bYES\\b", "MAYBE"}, {"\\bMAYBE\\b", "YES"},
        {"\\bMAYBE\\b", "NO"}, {"(?<!\\w)!(?=[\\w(])", ""}, {"\\bBAD\\b", "FULL"}, {"\\bFULL\\b", "BAD"},
        {"\\bSTATE\\b", "BAD"}, {"\\bNONE\\b", "BAD"}, {"\\bi\\b", "j"}, {"\\bj\\b", "i"}, {"\\bv\\b", "w"},
        {"\\bw\\b", "v"}, {"\\bone\\b", "other"}, {"\\bother\\b", "one"}, {"\\bwide\\b", "other"}};
    /** What is put in place of a whole line: an answer that is another one, a question turned about, nothing. */
    private static final String[][] WHOLES = {{"^(\\s*return )(.+);$", "$1($2) + 1;"},
        {"^(\\s*return )(.+);$", "$1!($2);"}, {"^(\\s*(?:\\} else )?if \\()(.*)(\\) \\{)$", "$1!($2)$3"},
        {"^(\\s*)(?!return|int |boolean |private |public |static |final |for )[\\w.\\[\\]()+ -]+( =|\\(|\\+\\+|--| \\+=).*;$",
            "$1;"}};
    private static final Pattern NUMBER = Pattern.compile("(?<![\\w.'\"])\\d+(?![\\w.])");

    private record Break(int line, String instead) { }

    private final List<String> lines;
    private final String test;
    private final Path room;

    private Mutants(String test) throws IOException {
        this.test = test;
        lines = Files.readAllLines(Path.of(SOURCE));
        room = Files.createTempDirectory("mutants");
    }

    public static void main(String[] args) throws Exception {
        new Mutants(args.length > 0 ? args[0] : "EdgeTest").run();
    }

    private void run() throws Exception {
        List<String> all = new ArrayList<>(List.of(SOURCE));
        try (Stream<Path> tests = Files.list(Path.of("src/test/java"))) {
            tests.forEach(t -> all.add(t.toString()));
        }
        if (!compiles(room.resolve("tests"), all) || !passes(room.resolve("tests").toString())) {
            throw new IllegalStateException(test + " fails without a break");
        }
        List<Break> breaks = breaks();
        ExecutorService workers = Executors.newFixedThreadPool(Runtime.getRuntime().availableProcessors());
        List<Future<Boolean>> passed = new ArrayList<>();
        for (int k = 0; k < breaks.size(); k++) {
            int which = k;
            passed.add(workers.submit(() -> passesWith(breaks.get(which), room.resolve("m" + which))));
        }
        int unfound = 0;
        for (int k = 0; k < breaks.size(); k++) {
            if (passed.get(k).get()) {
                unfound++;
                int line = breaks.get(k).line();
                System.out.println((line + 1) + ": " + lines.get(line).strip() + "  ==>  " + breaks.get(k).instead().strip());
            }
        }
        workers.shutdown();
        System.out.println(breaks.size() + " breaks, " + unfound + " not found by " + test);
        delete(room);
    }

    private List<Break> breaks() {
        List<Break> breaks = new ArrayList<>();
        for (int i = 0; i < lines.size(); i++) {
            String line = lines.get(i);
            if (line.strip().matches("(/?\\*|//|import|(public|private) (static )?final class).*|")) {
                continue;
            }
            for (String[] part : PARTS) {
                Matcher found = Pattern.compile(part[0]).matcher(line);
                while (found.find()) {
                    breaks.add(new Break(i, line.substring(0, found.start()) + part[1] + line.substring(found.end())));
                }
            }
            for (String[] whole : WHOLES) {
                if (line.matches(whole[0])) {
                    breaks.add(new Break(i, line.replaceFirst(whole[0], whole[1])));
                }
            }
            Matcher number = NUMBER.matcher(line);
            while (number.find()) {
                int value = Integer.parseInt(number.group());
                breaks.add(new Break(i, line.substring(0, number.start()) + (value + 1) + line.substring(number.end())));
                breaks.add(new Break(i, line.substring(0, number.start()) + (value - 1) + line.substring(number.end())));
            }
        }
        return breaks;
    }

    /** What does not compile is no break. */
    private boolean passesWith(Break one, Path place) throws IOException, InterruptedException {
        List<String> broken = new ArrayList<>(lines);
        broken.set(one.line(), one.instead());
        Path source = Files.createDirectories(place).resolve("FoldedHeaps.java");
        Files.write(source, broken);
        boolean passes = compiles(place, List.of(source.toString())) && passes(place + ":" + room.resolve("tests"));
        delete(place);
        return passes;
    }

    private static boolean compiles(Path to, List<String> sources) {
        List<String> words = new ArrayList<>(List.of("-nowarn", "-d", to.toString()));
        words.addAll(sources);
        var nowhere = java.io.OutputStream.nullOutputStream();
        return ToolProvider.getSystemJavaCompiler().run(null, nowhere, nowhere, words.toArray(new String[0])) == 0;
    }

    /** One that runs on and on is found too. */
    private boolean passes(String classes) throws IOException, InterruptedException {
        Process run = new ProcessBuilder("java", "-XX:TieredStopAtLevel=1", "-XX:+UseSerialGC", "-cp", classes, test)
            .redirectErrorStream(true).redirectOutput(ProcessBuilder.Redirect.DISCARD).start();
        if (!run.waitFor(60, TimeUnit.SECONDS)) {
            run.destroyForcibly();
            return false;
        }
        return run.exitValue() == 0;
    }

    private static void delete(Path place) throws IOException {
        try (Stream<Path> all = Files.walk(place)) {
            for (Path p : all.sorted(Comparator.reverseOrder()).toList()) {
                Files.delete(p);
            }
        }
    }
}
