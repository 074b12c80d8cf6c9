/** Promises 26 to 29: sheets, and the deeds that are read from them. */
final class SheetsTest {
    private static final Check CHECK = new Check("SheetsTest");

    public static void main(String[] args) {
        sheets();
        lays();
        lowestBits();
        reads();
        readsOnNewRows();
        tornReads();
        refusedReads();
        emptyReads();
        CHECK.close();
    }

    private static void sheets() {
        FoldedHeaps x = new FoldedHeaps();
        int[][] bad = {{-1, 0, 0}, {4, 0, 0}, {0, -1, 0}, {0, 3, 0}, {0, 0, 41}, {4, 0, -1}, {0, 3, -1},
            {0, 0, Integer.MAX_VALUE}};
        for (int[] b : bad) {
            CHECK.due("sheet(" + b[0] + ", " + b[1] + ", " + b[2] + ")", FoldedHeaps.BAD, x.sheet(b[0], b[1], b[2]));
        }
        CHECK.due("sheet(0, 0, -1)", -14, x.sheet(0, 0, -1));
        CHECK.due("sheet(0, 0, least)", -14, x.sheet(0, 0, Integer.MIN_VALUE));
        CHECK.due("sheets that were refused are nothing", FoldedHeaps.NONE, x.count(2));
        for (int k = 0; k < 4; k++) {
            for (int lane = 0; lane < 3; lane++) {
                CHECK.due("sheet(" + k + ", " + lane + ", 40)", 1, x.sheet(k, lane, 40));
                CHECK.due("sheet(" + k + ", " + lane + ", 0)", 1, x.sheet(k, lane, 0));
            }
        }
    }

    private static void lays() {
        FoldedHeaps x = new FoldedHeaps();
        CHECK.due("lay(-1, 0, 0)", FoldedHeaps.BAD, x.lay(-1, 0, 0));
        CHECK.due("lay(4, 0, 0)", FoldedHeaps.BAD, x.lay(4, 0, 0));
        CHECK.due("lay on nothing", -11, x.lay(0, 0, 0));
        CHECK.due("lay on nothing, far out", -11, x.lay(0, -1, 0));
        x.sheet(0, 0, 2);
        CHECK.due("lay(0, 0, 7)", 1, x.lay(0, 0, 7));
        CHECK.due("lay(0, 1, 7)", 1, x.lay(0, 1, 7));
        CHECK.due("lay(0, 2, 7)", -12, x.lay(0, 2, 7));
        CHECK.due("lay(0, -1, 7)", -12, x.lay(0, -1, 7));
        CHECK.due("lay(0, greatest, 7)", -12, x.lay(0, Integer.MAX_VALUE, 7));
        x.sheet(0, 0, 0);
        CHECK.due("lay on no cells", -12, x.lay(0, 0, 7));
    }

    /** A byte keeps 8 bits, a short 16, an int all, with their sign: seen by which deed is refused. */
    private static void lowestBits() {
        int[] values = {5, 256 + 5, 65536 + 5, 128, 32768, -1, -256 + 5, Integer.MIN_VALUE, Integer.MIN_VALUE + 5};
        for (int value : values) {
            for (int lane = 0; lane < 3; lane++) {
                int kind = lane == 0 ? (byte) value : lane == 1 ? (short) value : value;
                FoldedHeaps x = new FoldedHeaps();
                x.sheet(2, lane, 3);
                x.lay(2, 0, value);
                CHECK.due("read of " + value + " in lane " + lane, kind >= 0 && kind <= 5 ? 1 : -20, x.read(2, lane, 0, 1));
                CHECK.due("nodes then", kind == 5 ? 1 : 0, x.rule(0));
            }
        }
    }

    private static FoldedHeaps withDeeds(int lane, int cells, int... values) {
        FoldedHeaps x = new FoldedHeaps();
        x.sheet(1, lane, cells);
        for (int i = 0; i < values.length; i++) {
            x.lay(1, i, values[i]);
        }
        return x;
    }

    private static void reads() {
        for (int lane = 0; lane < 3; lane++) {
            FoldedHeaps x = withDeeds(lane, 40, 5, 0, 9, 5, 1, 9, 4, 0, 1, 1, 2, 0);
            CHECK.due("read(1, lane, 0, 4)", 4, x.read(1, lane, 0, 4));
            CHECK.due("torn()", 0, x.torn());
            CHECK.shapeIs("four deeds", "00|20|02|20|02 00", x);
            CHECK.due("read from cell 1", -20, x.read(1, lane, 2, 1));
            CHECK.due("read(1, lane, 12, 9): nothing becomes nothing", 9, x.read(1, lane, 12, 9));
            CHECK.shapeIs("x becomes nothing", "00|00|02|20|02 00", x);
        }
        FoldedHeaps x = withDeeds(0, 39);
        CHECK.due("read of 13", 13, x.read(1, 0, 0, 13));
        CHECK.due("torn()", 0, x.torn());
        int[][] bad = {{-1, 0, 0}, {4, 0, 0}, {1, -1, 0}, {1, 3, 0}, {1, 0, -1}, {1, 0, 14}};
        for (int[] b : bad) {
            CHECK.due("read(" + b[0] + ", " + b[1] + ", 0, " + b[2] + ")", FoldedHeaps.BAD, x.read(b[0], b[1], 0, b[2]));
        }
    }

    /** An answer of 0 (held: no) is no refusal; a new row is of cells 0. */
    private static void readsOnNewRows() {
        FoldedHeaps x = withDeeds(1, 9, 3, 0, 0, 4, 1, 2, 5, 0, 0);
        CHECK.due("read of deeds that answer 0", 3, x.read(1, 1, 0, 3));
        CHECK.due("rule(0)", 1, x.rule(0));
        x.sheet(1, 1, 9);
        CHECK.due("read of a new row", 3, x.read(1, 1, 0, 3));
        CHECK.shapeIs("x becomes nothing", "0|0|0|0|0", x);
    }

    private static void tornReads() {
        FoldedHeaps x = withDeeds(1, 8, 5, 0, 0, 5, 1, 0, 5, 2);
        CHECK.due("read of a third that is not whole", 2, x.read(1, 1, 0, 3));
        CHECK.due("torn()", 2, x.torn());
        CHECK.due("torn() again", 2, x.torn());
        CHECK.due("rule(0): those ahead came", 2, x.rule(0));
        CHECK.due("read(1, 1, 0, 14)", FoldedHeaps.BAD, x.read(1, 1, 0, 14));
        CHECK.due("torn() stays", 2, x.torn());
        CHECK.due("read as another lane", 0, x.read(1, 2, 0, 1));
        CHECK.due("torn()", 3, x.torn());
        CHECK.due("read as another lane, far out", 0, x.read(1, 0, 99, 1));
        CHECK.due("torn()", 3, x.torn());
        CHECK.due("read of nothing", 0, x.read(3, 2, -7, 1));
        CHECK.due("torn()", 1, x.torn());
        int[] far = {-1, 6, 8, Integer.MAX_VALUE, Integer.MAX_VALUE - 1, Integer.MIN_VALUE};
        for (int f : far) {
            FoldedHeaps y = withDeeds(1, 8);
            CHECK.due("read from cell " + f, 0, y.read(1, 1, f, 13));
            CHECK.due("torn()", 2, y.torn());
        }
        CHECK.due("read from cell 3", 1, x.read(1, 1, 3, 1));
        CHECK.due("torn()", 0, x.torn());
    }

    private static void refusedReads() {
        FoldedHeaps x = withDeeds(2, 40, 5, 0, 0, 5, 1, 0, 4, 0, 1, 6, 0, 0);
        CHECK.due("read up to one that is bad", -23, x.read(1, 2, 0, 5));
        CHECK.due("rule(0): none came", 0, x.rule(0));
        CHECK.shapeIs("a read that was refused", "||||", x);
        x.read(1, 0, 0, 1);
        CHECK.due("read from one that is bad", -20, x.read(1, 2, 9, 1));
        CHECK.due("torn() stays", 3, x.torn());
        FoldedHeaps full = withDeeds(0, 40, 5, 0, 0, 5, 0, 0, 5, 0, 0, 5, 0, 0, 5, 0, 0, 5, 0, 0, 5, 0, 0);
        full.add(1);
        CHECK.due("read up to one that is full", -25, full.read(1, 0, 0, 7));
        CHECK.shapeIs("a read that was full", "1|0|0|0|0", full);
        CHECK.due("read of what there is room for", 5, full.read(1, 0, 0, 5));
        // the bad one lies ahead of the end of the sheet
        FoldedHeaps first = withDeeds(0, 4, 7, 0, 0, 5);
        CHECK.due("the first that is met: bad", -20, first.read(1, 0, 0, 2));
        // the one that is bad is not whole
        FoldedHeaps second = withDeeds(0, 5, 5, 0, 0, 7, 7);
        CHECK.due("the first that is met: torn", 1, second.read(1, 0, 0, 2));
        CHECK.due("torn()", 2, second.torn());
    }

    /** No cell is asked for, so the machine finds nothing. */
    private static void emptyReads() {
        FoldedHeaps x = withDeeds(0, 3);
        x.read(1, 1, 0, 1);
        CHECK.due("torn()", 3, x.torn());
        CHECK.due("read of none", 0, x.read(1, 0, 77, 0));
        CHECK.due("torn()", 0, x.torn());
    }
}
