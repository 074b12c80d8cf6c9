import java.util.function.Supplier;
import java.util.function.ToIntFunction;

/** Holds the class to the document sentence by sentence: each test says its promise's number and its sentence. */
final class Edges {
    private final Check check = new Check("EdgeTest");
    private final Document document = new Document();
    private String holding = "";
    private int sentences;

    /** Each sentence has a test of its own, so none is quoted twice; 0: it binds all promises. */
    void sentence(int promise, String words, Runnable test) {
        holding = (promise == 0 ? "all promises" : "promise " + promise) + ", \"" + words + "\": ";
        check.holds(holding + "that it stands in the document, quoted once", document.mark(promise, words));
        sentences++;
        test.run();
    }

    void due(String call, int want, int got) {
        check.due(holding + call, want, got);
    }

    void shape(String after, String want, Calls x) {
        alike("the shape behind " + after, want, x.shape());
    }

    void alike(String what, String want, String got) {
        check.holds(holding + what + " is " + got + ", due is " + want + ": that", want.equals(got));
    }

    /** Two objects with one past, of which one alone is asked what is refused: both must tell the same of all. */
    void refused(Supplier<Calls> past, String call, int want, ToIntFunction<Calls> asked) {
        Calls one = past.get();
        Calls other = past.get();
        due(call, want, asked.applyAsInt(one));
        alike("all behind " + call, other.whole(), one.whole());
    }

    /** The same with the past that has some of everything. */
    void refused(String call, int want, ToIntFunction<Calls> asked) {
        refused(Edges::someOfAll, call, want, asked);
    }

    /** Three nodes, two formulas, two images, three sheets, a fault of a text and one of a read, a text on the tape. */
    static Calls someOfAll() {
        Calls x = Calls.told("many;node;node;at x 0 maybe;at x 1 maybe;at y 1;next 0 0 maybe;next 0 1;next 1 2;"
            + "ask all a some b:next a b;ask some c:at x c many c or;");
        x.keep(0);
        x.lose(2);
        x.place(2, 0, 1);
        x.keep(1);
        x.add(1);
        x.lead(2, 1, 1);
        x.lays(0, 0, 2, 2, 1, 1, 0, 2, 4);
        x.lays(1, 1, 4, 1, 0, 2, 1, 1);
        x.lays(2, 2, 3, 0, 0, 9, 0);
        x.read(0, 0, 5, 1);
        x.tell("node;many;A");
        x.feedAll("many;node;at y 1 maybe;");
        return x;
    }

    /** Six nodes, made by hand so that calls are left for asking. */
    static Calls sixNodes() {
        Calls x = new Calls();
        for (int i = 0; i < 6; i++) {
            x.add(i % 2);
        }
        x.place(0, 1, 1);
        x.place(1, 5, 1);
        x.place(2, 0, 2);
        x.lead(0, 1, 2);
        x.lead(1, 5, 1);
        x.keep(0);
        return x;
    }

    /** What lies just outside of a range, and far out. */
    static int[] outside(int least, int most) {
        return new int[] {least - 1, most + 1, Integer.MIN_VALUE, Integer.MAX_VALUE};
    }

    void everySentenceIsQuoted() {
        holding = "";
        alike("what no test quotes of the terms", "", document.unmarked(0));
        for (int p = 1; p <= Document.PROMISES; p++) {
            alike("what no test quotes of promise " + p, "", document.unmarked(p));
        }
    }

    void close() {
        System.out.println("EdgeTest: " + sentences + " sentences");
        check.close();
    }
}
