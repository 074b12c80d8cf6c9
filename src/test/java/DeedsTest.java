/** Promises 17 and 22: deeds, one at a time and by a seed. */
final class DeedsTest {
    private static final Check CHECK = new Check("DeedsTest");
    private static final String SHAPE = "node;many;node;at x 0;at y 1 maybe;at y 2 maybe;at z 1;"
        + "next 0 1;next 0 2 maybe;next 1 2 maybe;next 2 0;";

    public static void main(String[] args) {
        refusals();
        becomes();
        oneBehindAnother();
        leads();
        newNodes();
        answers();
        runs();
        CHECK.close();
    }

    private static void refusals() {
        int[][] bad = {{-1, 0, 0}, {6, 0, 0}, {0, 3, 0}, {0, -1, 0}, {1, 0, 3}, {2, 0, -1}, {4, 0, 3}, {5, 3, 0}};
        FoldedHeaps x = Check.told(SHAPE);
        String was = Check.shape(x);
        for (int[] b : bad) {
            CHECK.due("deed(" + b[0] + ", " + b[1] + ", " + b[2] + ")", FoldedHeaps.BAD, x.deed(b[0], b[1], b[2]));
        }
        CHECK.shapeIs("what was refused", was, x);
        for (int i = 3; i < 6; i++) {
            x.add(0);
        }
        CHECK.due("deed(5, 0, 0) with 6 nodes", FoldedHeaps.FULL, x.deed(5, 0, 0));
        CHECK.due("deed(5, 3, 0) with 6 nodes", FoldedHeaps.BAD, x.deed(5, 3, 0));
    }

    private static void becomes() {
        did(0, 1, 99, 2, "010|200|000|020|021 001 200");
        did(1, 0, 1, 2, "010|011|011|020|021 001 200");
        did(1, 0, 0, 2, "010|200|011|020|021 001 200");
        did(2, 2, 0, 2, "010|200|011|021|021 001 200");
        did(2, 1, 1, 1, "010|200|101|020|021 001 200");
        did(2, 0, 0, 2, "010|021|011|020|021 001 200");
        did(2, 0, 2, 2, "010|001|011|020|021 001 200");
    }

    /** A deed starts from what there is, not from what the one ahead of it found. */
    private static void oneBehindAnother() {
        FoldedHeaps x = Check.told("node;node;node;at x 0;next 0 1;next 1 2;next 2 2 maybe;");
        CHECK.due("deed(2, 0, 0)", 2, x.deed(2, 0, 0));
        CHECK.shapeIs("one step", "000|020|000|000|020 002 001", x);
        CHECK.due("deed(2, 0, 0)", 2, x.deed(2, 0, 0));
        CHECK.shapeIs("two steps", "000|002|000|000|020 002 001", x);
        CHECK.due("deed(2, 0, 0)", 2, x.deed(2, 0, 0));
        CHECK.shapeIs("three steps", "000|001|000|000|020 002 001", x);
        CHECK.due("deed(2, 1, 0)", 1, x.deed(2, 1, 0));
        CHECK.shapeIs("four steps", "000|001|001|000|020 002 001", x);
    }

    private static void leads() {
        did(3, 0, -5, 2, "010|200|011|020|000 001 200");
        did(3, 1, 7, 1, "010|200|011|020|021 001 100");
        did(4, 0, 2, 2, "010|200|011|020|020 001 200");
        did(4, 0, 1, 2, "010|200|011|020|011 001 200");
        did(4, 1, 0, 1, "010|200|011|020|021 101 100");
        did(4, 2, 2, 2, "010|200|011|020|021 020 200");
        did(4, 1, 1, 1, "010|200|011|020|021 011 111");
    }

    private static void newNodes() {
        did(5, 1, 33, 2, "0100|2000|0002|0200|0210 0010 2000 0000");
        FoldedHeaps x = new FoldedHeaps();
        CHECK.due("deed(5, 2, -1) of none", 2, x.deed(5, 2, -1));
        CHECK.shapeIs("deed(5, 2, -1)", "0|0|0|2|0", x);
    }

    private static void answers() {
        FoldedHeaps x = new FoldedHeaps();
        int[] want = {2, 2, 0, 0, 0, 2};
        for (int kind = 0; kind < want.length; kind++) {
            CHECK.due("deed(" + kind + ", 0, 1) of none", want[kind], x.deed(kind, 0, 1));
        }
        CHECK.due("deed(4, 0, 1), x at the new one", 2, x.deed(4, 0, 1));
        CHECK.due("deed(2, 0, 1), y nowhere", 0, x.deed(2, 0, 1));
    }

    private static void did(int kind, int v, int w, int answer, String shape) {
        String call = "deed(" + kind + ", " + v + ", " + w + ")";
        FoldedHeaps x = Check.told(SHAPE);
        CHECK.due(call, answer, x.deed(kind, v, w));
        CHECK.shapeIs(call, shape, x);
    }

    private static void runs() {
        FoldedHeaps x = new FoldedHeaps();
        CHECK.due("run(1, 0)", FoldedHeaps.BAD, x.run(1, 0));
        CHECK.due("run(1, 21)", FoldedHeaps.BAD, x.run(1, 21));
        CHECK.due("run(1, -1)", FoldedHeaps.BAD, x.run(1, -1));
        CHECK.due("run(1, 1)", 1, x.run(1, 1));
        int[] seeds = {0, 1, 7, -1, 12345, Integer.MIN_VALUE, Integer.MAX_VALUE, 99991};
        for (int seed : seeds) {
            FoldedHeaps one = new FoldedHeaps();
            FoldedHeaps other = new FoldedHeaps();
            long grown = seed;
            int done = 0;
            for (int i = 0; i < 20; i++) {
                grown = (int) (grown * 1103515245L + 12345L);
                int got = (int) ((grown & 0xffffffffL) / 65536 % 32768);
                done += other.deed(got % 6, got / 8 % 3, got / 32 % 3) == FoldedHeaps.FULL ? 0 : 1;
            }
            CHECK.due("run(" + seed + ", 20)", done, one.run(seed, 20));
            CHECK.shapeIs("run(" + seed + ", 20)", Check.shape(other), one);
        }
    }
}
