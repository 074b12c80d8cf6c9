/** Promises 12 to 16: what is changed by hand. */
final class HandTest {
    private static final Check CHECK = new Check("HandTest");

    public static void main(String[] args) {
        adds();
        loses();
        manys();
        places();
        leads();
        CHECK.close();
    }

    private static void adds() {
        FoldedHeaps x = new FoldedHeaps();
        CHECK.due("add(2)", FoldedHeaps.BAD, x.add(2));
        CHECK.due("add(-1)", FoldedHeaps.BAD, x.add(-1));
        for (int i = 1; i <= 6; i++) {
            CHECK.due("add the " + i + "th", i, x.add(i % 2));
        }
        CHECK.due("add the 7th", FoldedHeaps.FULL, x.add(0));
        CHECK.due("add(2) with 6", FoldedHeaps.BAD, x.add(2));
        CHECK.shapeIs("six adds", "101010|000000|000000|000000|000000 000000 000000 000000 000000 000000", x);
        // what a node had that is gone does not come back with a new one
        x.place(0, 5, 2);
        x.lead(5, 5, 2);
        x.lead(0, 5, 1);
        x.lead(5, 0, 1);
        x.many(5, 1);
        CHECK.due("lose(5)", 5, x.lose(5));
        CHECK.due("add(0) again", 6, x.add(0));
        CHECK.shapeIs("lose, add", "101010|000000|000000|000000|000000 000000 000000 000000 000000 000000", x);
    }

    private static void loses() {
        FoldedHeaps x = Check.told("node;many;node;at x 0;at y 1;at z 2 maybe;"
            + "next 0 0 maybe;next 0 1;next 0 2 maybe;next 1 1;next 2 0;next 2 2 maybe;");
        CHECK.due("lose(3)", FoldedHeaps.BAD, x.lose(3));
        CHECK.due("lose(-1)", FoldedHeaps.BAD, x.lose(-1));
        CHECK.due("lose(1)", 2, x.lose(1));
        CHECK.shapeIs("lose(1)", "00|20|00|01|11 21", x);
        CHECK.due("lose(0)", 1, x.lose(0));
        CHECK.shapeIs("lose(0)", "0|0|0|1|1", x);
        CHECK.due("lose(0) again", 0, x.lose(0));
        CHECK.due("lose(0) of none", FoldedHeaps.BAD, x.lose(0));
    }

    private static void manys() {
        FoldedHeaps x = Check.told("node;many;");
        CHECK.due("many(0, 1)", 0, x.many(0, 1));
        CHECK.due("many(1, 0)", 1, x.many(1, 0));
        CHECK.due("many(1, 0) again", 0, x.many(1, 0));
        CHECK.shapeIs("manys", "10|00|00|00|00 00", x);
        CHECK.due("many(2, 0)", FoldedHeaps.BAD, x.many(2, 0));
        CHECK.due("many(-1, 0)", FoldedHeaps.BAD, x.many(-1, 0));
        CHECK.due("many(0, 2)", FoldedHeaps.BAD, x.many(0, 2));
        CHECK.due("many(0, -1)", FoldedHeaps.BAD, x.many(0, -1));
    }

    private static void places() {
        FoldedHeaps x = Check.told("node;many;");
        CHECK.due("place(0, 1, 2)", 0, x.place(0, 1, 2));
        CHECK.due("place(0, 1, 1)", 2, x.place(0, 1, 1));
        CHECK.due("place(2, 0, 1)", 0, x.place(2, 0, 1));
        CHECK.due("place(2, 0, 0)", 1, x.place(2, 0, 0));
        CHECK.shapeIs("places", "01|01|00|00|00 00", x);
        int[][] bad = {{3, 0, 0}, {-1, 0, 0}, {0, 2, 0}, {0, -1, 0}, {0, 0, 3}, {0, 0, -1}};
        for (int[] b : bad) {
            CHECK.due("place(" + b[0] + ", " + b[1] + ", " + b[2] + ")", FoldedHeaps.BAD, x.place(b[0], b[1], b[2]));
        }
    }

    private static void leads() {
        FoldedHeaps x = Check.told("node;many;");
        CHECK.due("lead(0, 1, 2)", 0, x.lead(0, 1, 2));
        CHECK.due("lead(0, 1, 1)", 2, x.lead(0, 1, 1));
        CHECK.due("lead(1, 1, 2)", 0, x.lead(1, 1, 2));
        CHECK.shapeIs("leads", "01|00|00|00|01 02", x);
        int[][] bad = {{2, 0, 0}, {-1, 0, 0}, {0, 2, 0}, {0, -1, 0}, {0, 0, 3}, {0, 0, -1}};
        for (int[] b : bad) {
            CHECK.due("lead(" + b[0] + ", " + b[1] + ", " + b[2] + ")", FoldedHeaps.BAD, x.lead(b[0], b[1], b[2]));
        }
    }
}
