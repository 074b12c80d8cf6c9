import java.util.function.ToIntFunction;

/** A new object whose calls are counted: behind the 512th, what it answers is free, so no test may ask it more. */
final class Calls {
    static final int MOST = 512;

    private final FoldedHeaps heaps = new FoldedHeaps();
    private int made;

    /** An object that was told a text, which must be one that is taken. */
    static Calls told(String text) {
        Calls x = new Calls();
        int lines = x.tell(text);
        if (lines < 0) {
            throw new IllegalStateException(text + " is refused: " + lines + ", fault " + x.fault());
        }
        return x;
    }

    private FoldedHeaps one() {
        if (made >= MOST) {
            throw new IllegalStateException("a test makes more than " + MOST + " calls");
        }
        made++;
        return heaps;
    }

    int made() {
        return made;
    }

    int feed(int c) {
        return one().feed(c);
    }

    int end(int n) {
        return one().end(n);
    }

    int text() {
        return one().text();
    }

    int fault() {
        return one().fault();
    }

    int rule(int what) {
        return one().rule(what);
    }

    int node(int i, int what) {
        return one().node(i, what);
    }

    int pair(int i, int j, int what) {
        return one().pair(i, j, what);
    }

    int held(int v) {
        return one().held(v);
    }

    int ask(int k) {
        return one().ask(k);
    }

    int formula(int k, int what) {
        return one().formula(k, what);
    }

    int add(int many) {
        return one().add(many);
    }

    int lose(int i) {
        return one().lose(i);
    }

    int many(int i, int on) {
        return one().many(i, on);
    }

    int place(int v, int i, int truth) {
        return one().place(v, i, truth);
    }

    int lead(int i, int j, int truth) {
        return one().lead(i, j, truth);
    }

    int deed(int kind, int v, int w) {
        return one().deed(kind, v, w);
    }

    int fold(int mode) {
        return one().fold(mode);
    }

    int sharpen() {
        return one().sharpen();
    }

    int ways(int v) {
        return one().ways(v);
    }

    int split(int v, int k) {
        return one().split(v, k);
    }

    int run(int seed, int n) {
        return one().run(seed, n);
    }

    int keep(int k) {
        return one().keep(k);
    }

    int back(int k) {
        return one().back(k);
    }

    int covers(int k, int what) {
        return one().covers(k, what);
    }

    int sheet(int k, int lane, int n) {
        return one().sheet(k, lane, n);
    }

    int lay(int k, int i, int v) {
        return one().lay(k, i, v);
    }

    int read(int k, int lane, int f, int n) {
        return one().read(k, lane, f, n);
    }

    int torn() {
        return one().torn();
    }

    int count(int what) {
        return one().count(what);
    }

    /** Feeds a text, byte by byte; the latest answer. */
    int feedAll(String text) {
        int answer = 0;
        for (int i = 0; i < text.length(); i++) {
            answer = feed(text.charAt(i));
        }
        return answer;
    }

    int tell(String text) {
        feedAll(text);
        return text();
    }

    /** Makes a sheet with these cells. */
    Calls lays(int k, int lane, int... cells) {
        sheet(k, lane, cells.length);
        for (int i = 0; i < cells.length; i++) {
            lay(k, i, cells[i]);
        }
        return this;
    }

    /** The whole shape as digits: manys | ats of x | y | z | nexts row by row. */
    String shape() {
        int n = rule(0);
        StringBuilder s = new StringBuilder();
        for (int what = 0; what <= 3; what++) {
            s.append(digits(n, nodeAsked(what))).append('|');
        }
        for (int i = 0; i < n; i++) {
            s.append(digits(n, nextAsked(i))).append(i + 1 < n ? " " : "");
        }
        return s.toString();
    }

    private ToIntFunction<Integer> nodeAsked(int what) {
        return i -> node(i, what);
    }

    private ToIntFunction<Integer> nextAsked(int i) {
        return j -> pair(i, j, 0);
    }

    private static String digits(int n, ToIntFunction<Integer> asked) {
        StringBuilder s = new StringBuilder();
        for (int i = 0; i < n; i++) {
            s.append(asked.applyAsInt(i));
        }
        return s.toString();
    }

    /** All that there is, as far as calls can tell it; asking changes it, so this is the last of an object. */
    String whole() {
        StringBuilder s = new StringBuilder("shape ").append(shape());
        s.append(", fault ").append(fault()).append(", torn ").append(torn()).append(", counts");
        for (int what = 0; what <= 3; what++) {
            s.append(' ').append(count(what));
        }
        int formulas = rule(1);
        for (int k = 0; k < formulas; k++) {
            s.append(", formula ").append(ask(k)).append(' ').append(formula(k, 0)).append(formula(k, 1));
            s.append(' ').append(formula(k, 2)).append(' ').append(formula(k, 3));
        }
        for (int k = 0; k <= 1; k++) {
            int nodes = back(k);
            s.append(", image ").append(nodes < 0 ? "none" : shape());
        }
        return s.append(sheets()).append(tapeAsText()).toString();
    }

    private String sheets() {
        StringBuilder s = new StringBuilder();
        for (int k = 0; k <= 3; k++) {
            s.append(", sheet");
            for (int lane = 0; lane <= 2; lane++) {
                s.append(' ').append(read(k, lane, 0, 13)).append(' ').append(torn());
            }
        }
        return s.append(", which did ").append(shape()).toString();
    }

    private String tapeAsText() {
        return ", tape " + feed(' ') + " " + text() + " " + fault() + " " + shape();
    }
}
