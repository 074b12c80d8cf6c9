import java.util.Random;

/** Many runs of calls by chance (from fixed seeds), on the class and on the model: all answers must be alike. */
final class ModelTest {
    private static final int RUNS = 300;
    private static final int CALLS = 512;
    private static final String[] WORDS = {"node", "many", "at", "next", "ask", "all", "some", "maybe", "reach", "same",
        "not", "and", "or", "x", "y", "z", "a", "b", "c", "d", "w", "0", "1", "5", "6", "05", "000", ";", ":", "A", "-",
        "\t", " ", "nodes"};
    private static final String[] VARIABLES = {"x", "y", "z"};

    private final Check check = new Check("ModelTest");
    private final Random random;
    private FoldedHeaps one;
    private Model other;
    private final StringBuilder log = new StringBuilder();
    private int calls;

    private ModelTest(long seed) {
        random = new Random(seed);
    }

    public static void main(String[] args) {
        ModelTest test = new ModelTest(args.length > 0 ? Long.parseLong(args[0]) : 20261118L);
        int runs = args.length > 1 ? Integer.parseInt(args[1]) : RUNS;
        for (int run = 0; run < runs; run++) {
            test.oneRun();
        }
        test.check.close();
    }

    private void oneRun() {
        one = new FoldedHeaps();
        other = new Model();
        log.setLength(0);
        calls = 0;
        while (calls < CALLS) {
            if (random.nextInt(12) == 0) {
                tellText();
            } else {
                oneCall();
            }
            compareAll();
        }
    }

    private int low(int bound) {
        return random.nextInt(30) == 0 ? random.nextInt(5) - 1 + (random.nextBoolean() ? bound : -1)
            : random.nextInt(bound);
    }

    private void due(String call, int want, int got) {
        calls++;
        log.append(call).append(' ');
        check.due(want == got ? "" : log.toString(), want, got);
        if (want != got) {
            check.close();
        }
    }

    private void tellText() {
        String text = random.nextInt(4) == 0 ? wildText() : goodText();
        if (random.nextInt(3) == 0 && !text.isEmpty()) {
            text = spoiled(text);
        }
        int n = 0;
        log.append('"').append(text).append("\" ");
        for (int i = 0; i < text.length(); i++) {
            int want = other.feed(text.charAt(i));
            int got = one.feed(text.charAt(i));
            if (want != got) {
                due("feed", want, got);
            }
            n++;
        }
        if (random.nextInt(20) == 0) {
            int keep = low(n + 2);
            due("end(" + keep + ")", other.end(keep), one.end(keep));
        }
        due("text()", other.text(), one.text());
        due("fault()", other.fault(), one.fault());
    }

    private String wildText() {
        StringBuilder s = new StringBuilder();
        int words = random.nextInt(12);
        for (int i = 0; i < words; i++) {
            s.append(WORDS[random.nextInt(WORDS.length)]).append(random.nextInt(4) == 0 ? "" : " ");
        }
        return s.toString();
    }

    private String spoiled(String text) {
        int p = random.nextInt(text.length());
        String word = WORDS[random.nextInt(WORDS.length)];
        switch (random.nextInt(3)) {
            case 0: return text.substring(0, p);
            case 1: return text.substring(0, p) + text.substring(p + 1);
            default: return text.substring(0, p) + word + text.substring(p);
        }
    }

    private String goodText() {
        StringBuilder s = new StringBuilder();
        int nodes = random.nextInt(7);
        for (int i = 0; i < nodes; i++) {
            s.append(random.nextInt(3) == 0 ? "many;" : "node;");
        }
        int more = random.nextInt(12);
        for (int i = 0; i < more && nodes > 0; i++) {
            s.append(random.nextInt(3) == 0 ? "at " + VARIABLES[random.nextInt(3)] : "next " + random.nextInt(nodes));
            s.append(" ").append(random.nextInt(nodes)).append(random.nextBoolean() ? " maybe;" : ";");
        }
        int asks = random.nextInt(5);
        for (int i = 0; i < asks; i++) {
            s.append(goodFormula());
        }
        return s.toString();
    }

    private String goodFormula() {
        String letters = new String[] {"a", "b", "c", "ab", "ba", "ca", "abc", "cab", "bca"}[random.nextInt(9)];
        StringBuilder s = new StringBuilder("ask");
        for (char l : letters.toCharArray()) {
            s.append(random.nextBoolean() ? " all " : " some ").append(l);
        }
        s.append(":");
        int height = 0;
        int items = 1 + random.nextInt(9);
        for (int i = 0; i < items; i++) {
            height += item(s, letters, height);
        }
        for (; height > 1; height--) {
            s.append(random.nextBoolean() ? "and " : "or ");
        }
        return s.append(";").toString();
    }

    private int item(StringBuilder s, String letters, int height) {
        char l = letters.charAt(random.nextInt(letters.length()));
        char m = letters.charAt(random.nextInt(letters.length()));
        String v = VARIABLES[random.nextInt(3)];
        int kind = random.nextInt(8);
        if (kind > 4 && height < 2) {
            kind = random.nextInt(5);
        }
        s.append(new String[] {"at " + v + " " + l, "reach " + v + " " + l, "next " + l + " " + m,
            "same " + l + " " + m, "many " + l, "not", "and", "or"}[kind]).append(" ");
        return kind < 5 ? 1 : kind == 5 ? 0 : -1;
    }

    private void oneCall() {
        int a = low(6);
        int b = low(6);
        int t = low(3);
        int v = low(3);
        int w = low(3);
        switch (random.nextInt(19)) {
            case 0: due("add(" + t + ")", other.add(t), one.add(t)); break;
            case 1: due("lose(" + a + ")", other.lose(a), one.lose(a)); break;
            case 2: due("many(" + a + "," + t + ")", other.many(a, t), one.many(a, t)); break;
            case 3: due("place(" + v + "," + a + "," + t + ")", other.place(v, a, t), one.place(v, a, t)); break;
            case 4:
            case 5: due("lead(" + a + "," + b + "," + t + ")", other.lead(a, b, t), one.lead(a, b, t)); break;
            case 6:
            case 7:
            case 8: due("deed(" + a + "," + v + "," + w + ")", other.deed(a, v, w), one.deed(a, v, w)); break;
            case 9: due("fold(" + t + ")", other.fold(t), one.fold(t)); break;
            case 10: due("sharpen()", other.sharpen(), one.sharpen()); break;
            case 11: due("split(" + v + "," + b + ")", other.split(v, b), one.split(v, b)); break;
            case 12: runBySeed(); break;
            case 13: due("keep(" + t + ")", other.keep(t), one.keep(t)); break;
            case 14: due("back(" + t + ")", other.back(t), one.back(t)); break;
            case 15: coversBoth(); break;
            default: sheetCall(); break;
        }
    }

    private void runBySeed() {
        int seed = random.nextInt();
        int n = low(21);
        due("run(" + seed + "," + n + ")", other.run(seed, n), one.run(seed, n));
    }

    private void coversBoth() {
        int k = low(2);
        for (int what = -1; what <= 2; what++) {
            due("covers(" + k + "," + what + ")", other.covers(k, what), one.covers(k, what));
        }
    }

    private void sheetCall() {
        int k = low(4);
        int lane = low(3);
        int i = random.nextInt(10) == 0 ? random.nextInt() : low(41);
        switch (random.nextInt(6)) {
            case 0:
                due("sheet(" + k + "," + lane + "," + i + ")", other.sheet(k, lane, i), one.sheet(k, lane, i));
                break;
            case 1:
            case 2:
                int value = random.nextInt(8) == 0 ? random.nextInt() : random.nextInt(6);
                due("lay(" + k + "," + i + "," + value + ")", other.lay(k, i, value), one.lay(k, i, value));
                break;
            default:
                int n = low(14);
                due("read(" + k + "," + lane + "," + i + "," + n + ")", other.read(k, lane, i, n),
                    one.read(k, lane, i, n));
                due("torn()", other.torn(), one.torn());
                break;
        }
    }

    /** All that can be asked without changing anything; not logged, not counted. */
    private void compareAll() {
        for (int k = -1; k <= 8; k++) {
            alike("rule", k, 0, 0, other.rule(k), one.rule(k));
            alike("held", k, 0, 0, other.held(k), one.held(k));
            alike("ways", k, 0, 0, other.ways(k), one.ways(k));
            alike("ask", k, 0, 0, other.ask(k), one.ask(k));
            alike("count", k, 0, 0, other.count(k), one.count(k));
            for (int j = -1; j <= 7; j++) {
                alike("node", k, j, 0, other.node(k, j), one.node(k, j));
                alike("formula", k, j, 0, other.formula(k, j), one.formula(k, j));
                for (int what = -1; what <= 3; what++) {
                    alike("pair", k, j, what, other.pair(k, j, what), one.pair(k, j, what));
                }
            }
        }
    }

    private void alike(String call, int a, int b, int c, int want, int got) {
        if (want != got) {
            due(call + " " + a + " " + b + " " + c, want, got);
        }
    }
}
