/** Counts the answers that are not as due, for the main method of a test. */
final class Check {
    private final String test;
    private int asked;
    private int wrong;

    Check(String test) {
        this.test = test;
    }

    void due(String call, int want, int got) {
        asked++;
        if (want != got) {
            wrong++;
            System.out.println(test + ": " + call + " answered " + got + ", due is " + want);
        }
    }

    void holds(String what, boolean does) {
        asked++;
        if (!does) {
            wrong++;
            System.out.println(test + ": " + what + " does not hold");
        }
    }

    /** Ends the program, with 1 if an answer was wrong. */
    void close() {
        System.out.println(test + ": " + asked + " answers, " + wrong + " wrong");
        if (wrong != 0) {
            System.exit(1);
        }
    }

    static void feed(FoldedHeaps heaps, String text) {
        for (int i = 0; i < text.length(); i++) {
            heaps.feed(text.charAt(i));
        }
    }

    static int tell(FoldedHeaps heaps, String text) {
        feed(heaps, text);
        return heaps.text();
    }

    /** A new object that was told a text, which must be one that is taken. */
    static FoldedHeaps told(String text) {
        FoldedHeaps heaps = new FoldedHeaps();
        int lines = tell(heaps, text);
        if (lines < 0) {
            throw new IllegalStateException(text + " is refused: " + lines + ", fault " + heaps.fault());
        }
        return heaps;
    }

    /** The whole shape as digits: manys | ats of x | y | z | nexts row by row. */
    static String shape(FoldedHeaps heaps) {
        int n = heaps.rule(0);
        StringBuilder s = new StringBuilder();
        for (int what = 0; what <= 3; what++) {
            for (int i = 0; i < n; i++) {
                s.append(heaps.node(i, what));
            }
            s.append('|');
        }
        for (int i = 0; i < n; i++) {
            for (int j = 0; j < n; j++) {
                s.append(heaps.pair(i, j, 0));
            }
            s.append(i + 1 < n ? " " : "");
        }
        return s.toString();
    }

    void shapeIs(String after, String want, FoldedHeaps heaps) {
        String got = shape(heaps);
        asked++;
        if (!want.equals(got)) {
            wrong++;
            System.out.println(test + ": after " + after + " the shape is " + got + ", due is " + want);
        }
    }
}
