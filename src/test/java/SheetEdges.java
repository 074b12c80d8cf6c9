/** Promises 26 to 29: sheets, the deeds that are read from them, and what the machine finds. */
final class SheetEdges {
    private final Edges e;

    SheetEdges(Edges edges) {
        e = edges;
    }

    void all() {
        e.sentence(26, "SHEETS 0 to 3 are rows of BYTES (lane 0), SHORTS (1), INTS (2) with 0 to 40 CELLS, "
            + "or nothing (at first).", this::rows);
        e.sentence(28, "A FAULT is what the machine finds: 1 NULL (nothing), 2 INDEX, 3 CAST (another lane), 4 SIZE (below 0).",
            this::whatTheMachineFinds);
        e.sentence(26, "A SHEET is a new row of CELLS 0: 1.", this::newRows);
        e.sentence(26, "BAD: also n above 40;", this::badSheets);
        e.sentence(26, "-10 - 4.", this::sizesBelow0);
        e.sentence(27, "CELL i of a SHEET becomes v (its lowest bits): 1.", this::lays);
        e.sentence(27, "BAD: k;", this::badLays);
        e.sentence(27, "-10 less the FAULT: NULL, INDEX.", this::faultyLays);
        e.sentence(28, "n (0 to 13) DEEDS (kind, v, w) are read of a SHEET taken as of a lane, "
            + "three CELLS each from CELL f on, one behind another as by deed(): how many came.", this::reads);
        e.sentence(28, "What the machine refuses: those that were whole ahead came (its FAULT is asked by torn()).",
            this::tornReads);
        e.sentence(28, "BAD: k, lane, n;", this::badReads);
        e.sentence(28, "-20 less i: the i-th, whole, is refused by deed() (in either way): then none came;",
            this::refusedReads);
        e.sentence(28, "the first met.", this::firstMet);
        e.sentence(29, "The FAULT of the latest read() that came to an end; 0.", this::latestFault);
    }

    /** A deed that makes a node, for each of three cells. */
    private static int[] news(int n) {
        int[] cells = new int[n];
        for (int i = 0; i < n; i += 3) {
            cells[i] = 5;
        }
        return cells;
    }

    private void rows() {
        for (int k = 0; k <= 3; k++) {
            for (int lane = 0; lane <= 2; lane++) {
                Calls x = new Calls();
                e.due("lay on nothing", -11, x.lay(k, 0, 1));
                e.due("sheet(" + k + ", " + lane + ", 40)", 1, x.sheet(k, lane, 40));
                e.due("lay on the last cell", 1, x.lay(k, 39, 1));
                e.due("lay behind the last cell", -12, x.lay(k, 40, 1));
                e.due("read of 13", 13, x.read(k, lane, 0, 13));
                e.due("read as of another lane", 0, x.read(k, (lane + 1) % 3, 0, 1));
                e.due("torn()", 3, x.torn());
                e.due("sheet(" + k + ", " + lane + ", 0)", 1, x.sheet(k, lane, 0));
                e.due("lay on no cells", -12, x.lay(k, 0, 1));
            }
        }
        int[][] bad = {{-1, 0, 0}, {4, 0, 0}, {0, -1, 0}, {0, 3, 0}, {0, 0, 41}};
        for (int[] b : bad) {
            e.due("sheet(" + b[0] + ", " + b[1] + ", " + b[2] + ")", FoldedHeaps.BAD, new Calls().sheet(b[0], b[1], b[2]));
        }
    }

    private void whatTheMachineFinds() {
        Calls x = new Calls();
        e.due("lay on nothing", -10 - 1, x.lay(2, 0, 0));
        x.read(2, 0, 0, 1);
        e.due("torn(): nothing", 1, x.torn());
        x.sheet(2, 0, 3);
        e.due("lay out of the row", -10 - 2, x.lay(2, 3, 0));
        x.read(2, 0, 1, 1);
        e.due("torn(): out of the row", 2, x.torn());
        x.read(2, 1, 0, 1);
        e.due("torn(): another lane", 3, x.torn());
        e.due("sheet below 0", -10 - 4, x.sheet(2, 0, -1));
        // the lane is looked at ahead of the cells, and nothing is of no other lane
        x.read(2, 2, 99, 1);
        e.due("torn(): another lane, out of the row", 3, x.torn());
        x.read(3, 2, 99, 1);
        e.due("torn(): nothing, out of any row", 1, x.torn());
    }

    private void newRows() {
        for (int lane = 0; lane <= 2; lane++) {
            Calls x = new Calls().lays(1, lane, news(39));
            x.lay(1, 3, 9);
            e.due("sheet again", 1, x.sheet(1, lane, 40));
            // by cells that are all 0, x becomes nothing
            x.deed(5, 0, 0);
            e.due("read of the new row", 13, x.read(1, lane, 0, 13));
            e.shape("it", "0|0|0|0|0", x);
            e.due("sheet shorter", 1, x.sheet(1, lane, 2));
            e.due("lay on the last cell", 1, x.lay(1, 1, 0));
            e.due("lay behind it", -12, x.lay(1, 2, 0));
            e.due("sheet longer again", 1, x.sheet(1, lane, 3));
            e.due("read of it", 1, x.read(1, lane, 0, 1));
        }
        Calls others = new Calls().lays(0, 0, 5, 0, 0).lays(1, 0, 5, 0, 0);
        others.sheet(0, 1, 3);
        e.due("read of another sheet", 1, others.read(1, 0, 0, 1));
        e.due("rule(0): it is as it was", 1, others.rule(0));
    }

    private void badSheets() {
        for (int k : Edges.outside(0, 3)) {
            e.refused("sheet(" + k + ", 0, 3)", FoldedHeaps.BAD, x -> x.sheet(k, 0, 3));
            e.refused("sheet(" + k + ", 0, -1)", FoldedHeaps.BAD, x -> x.sheet(k, 0, -1));
        }
        for (int lane : Edges.outside(0, 2)) {
            e.refused("sheet(0, " + lane + ", 3)", FoldedHeaps.BAD, x -> x.sheet(0, lane, 3));
            e.refused("sheet(0, " + lane + ", -1)", FoldedHeaps.BAD, x -> x.sheet(0, lane, -1));
        }
        for (int n : new int[] {41, 42, 256, Integer.MAX_VALUE}) {
            e.refused("sheet(0, 0, " + n + ")", FoldedHeaps.BAD, x -> x.sheet(0, 0, n));
            e.refused("sheet(3, 2, " + n + ")", FoldedHeaps.BAD, x -> x.sheet(3, 2, n));
        }
        e.due("sheet(0, 0, 40)", 1, new Calls().sheet(0, 0, 40));
    }

    private void sizesBelow0() {
        for (int n : new int[] {-1, -2, -40, Integer.MIN_VALUE}) {
            e.refused("sheet(0, 2, " + n + ")", -14, x -> x.sheet(0, 2, n));
            e.refused("sheet(3, 0, " + n + ")", -14, x -> x.sheet(3, 0, n));
        }
        e.due("sheet(0, 0, 0)", 1, new Calls().sheet(0, 0, 0));
        Calls x = Edges.someOfAll();
        x.sheet(0, 2, -1);
        e.due("torn() is of reads alone", 2, x.torn());
        e.due("count(2)", 7, x.count(2));
    }

    /** A value that is laid as the kind of a deed: seen by whether one came and whether a node is new. */
    private void lays() {
        int[] values = {0, 5, 6, -1, 127, 128, 255, 256, 256 + 5, 256 + 6, 511, -251, -256, 32767, 32768, 65535, 65536,
            65536 + 5, 65536 + 256 + 5, -65531, Integer.MAX_VALUE, Integer.MIN_VALUE, Integer.MIN_VALUE + 5,
            (1 << 30) + 5, -5};
        for (int value : values) {
            for (int lane = 0; lane <= 2; lane++) {
                int kind = lane == 0 ? (byte) value : lane == 1 ? (short) value : value;
                Calls x = new Calls();
                x.sheet(1, lane, 3);
                e.due("lay(1, 0, " + value + ")", 1, x.lay(1, 0, value));
                int came = kind >= 0 && kind <= 5 ? 1 : -20;
                e.due("read of " + value + " in lane " + lane, came, x.read(1, lane, 0, 1));
                e.due("rule(0) then", kind == 5 ? 1 : 0, x.rule(0));
            }
        }
        eachCellIsLaid();
    }

    /** As the w of a deed 1: with a 7 there it is refused, with a 2 it is not. */
    private void eachCellIsLaid() {
        Calls x = new Calls();
        x.sheet(3, 0, 40);
        for (int i = 2; i < 40; i++) {
            x.lay(3, i - 2, 1);
            e.due("lay(3, " + i + ", 7)", 1, x.lay(3, i, 7));
            e.due("read where it is bad", -20, x.read(3, 0, i - 2, 1));
            e.due("lay(3, " + i + ", 2)", 1, x.lay(3, i, 2));
            e.due("read where it is right again", 1, x.read(3, 0, i - 2, 1));
            x.lay(3, i - 2, 0);
        }
    }

    private void badLays() {
        for (int k : Edges.outside(0, 3)) {
            e.refused("lay(" + k + ", 0, 1)", FoldedHeaps.BAD, x -> x.lay(k, 0, 1));
            e.refused("lay(" + k + ", -1, 1)", FoldedHeaps.BAD, x -> x.lay(k, -1, 1));
        }
    }

    private void faultyLays() {
        for (int i : new int[] {0, -1, 40, Integer.MAX_VALUE, Integer.MIN_VALUE}) {
            e.refused("lay(3, " + i + ", 1) on nothing", -11, x -> x.lay(3, i, 1));
        }
        for (int i : Edges.outside(0, 6)) {
            e.refused("lay(0, " + i + ", 1)", -12, x -> x.lay(0, i, 1));
        }
        for (int i : Edges.outside(0, 5)) {
            e.refused("lay(1, " + i + ", 1)", -12, x -> x.lay(1, i, 1));
        }
        for (int i : Edges.outside(0, 4)) {
            e.refused("lay(2, " + i + ", 1)", -12, x -> x.lay(2, i, 1));
        }
        Calls x = new Calls();
        x.sheet(0, 0, 0);
        e.due("lay(0, 0, 1) on no cells", -12, x.lay(0, 0, 1));
        e.due("torn() is of reads alone", 0, x.torn());
    }

    private void reads() {
        for (int lane = 0; lane <= 2; lane++) {
            Calls x = new Calls().lays(3, lane, 5, 0, 99, 5, 1, -9, 4, 0, 1, 1, 2, 0);
            e.due("read of four", 4, x.read(3, lane, 0, 4));
            e.due("torn()", 0, x.torn());
            e.shape("four deeds", "00|20|02|20|02 00", x);
            e.due("read of none", 0, x.read(3, lane, 0, 0));
            e.due("read of the last alone", 1, x.read(3, lane, 9, 1));
            e.shape("none and one more", "00|20|02|20|02 00", x);
        }
        Calls most = new Calls().lays(0, 0, new int[40]);
        e.due("read of 13 from cell 0", 13, most.read(0, 0, 0, 13));
        e.due("read of 13 from cell 1", 13, most.read(0, 0, 1, 13));
        e.due("torn()", 0, most.torn());
        e.due("read of none, far out", 0, most.read(0, 0, Integer.MAX_VALUE, 0));
        e.due("read of none, far below", 0, most.read(0, 0, Integer.MIN_VALUE, 0));
        // deeds that answer 0 (what they ask is not held) come as well
        Calls unheld = new Calls().lays(0, 1, 2, 0, 1, 3, 0, 0, 4, 1, 2);
        e.due("read of three that answer 0", 3, unheld.read(0, 1, 0, 3));
        // one behind another: each by what those ahead of it did
        Calls chain = Calls.told("node;node;node;at x 0;next 0 1;next 1 2;").lays(0, 2, 2, 0, 0, 2, 0, 0);
        e.due("read of two steps", 2, chain.read(0, 2, 0, 2));
        e.shape("two steps", "000|002|000|000|020 002 000", chain);
    }

    private void tornReads() {
        for (int cells = 0; cells <= 8; cells++) {
            Calls x = new Calls().lays(1, 1, news(cells));
            e.due("read of 13 from " + cells + " cells", cells / 3, x.read(1, 1, 0, 13));
            e.due("torn()", 2, x.torn());
            e.due("rule(0): those that were whole came", cells / 3, x.rule(0));
        }
        Calls x = new Calls().lays(1, 1, news(6));
        e.due("read of as many as there are", 2, x.read(1, 1, 0, 2));
        e.due("torn()", 0, x.torn());
        // a place out of the row at once, from which later ones would lie in it
        for (int f : new int[] {-1, -2, -3, -6, 4, 5, 6, 7, 40, Integer.MAX_VALUE, Integer.MAX_VALUE - 1,
            Integer.MAX_VALUE - 2, Integer.MAX_VALUE - 3, Integer.MIN_VALUE, Integer.MIN_VALUE + 3}) {
            e.due("read from cell " + f, 0, x.read(1, 1, f, 13));
            e.due("torn()", 2, x.torn());
        }
        e.due("rule(0)", 2, x.rule(0));
        e.due("read as of another lane", 0, x.read(1, 0, 0, 2));
        e.due("torn()", 3, x.torn());
        e.due("read of nothing", 0, x.read(0, 1, 0, 2));
        e.due("torn()", 1, x.torn());
        e.due("rule(0)", 2, x.rule(0));
    }

    private void badReads() {
        for (int k : Edges.outside(0, 3)) {
            e.refused("read(" + k + ", 0, 0, 1)", FoldedHeaps.BAD, x -> x.read(k, 0, 0, 1));
        }
        for (int lane : Edges.outside(0, 2)) {
            e.refused("read(0, " + lane + ", 0, 1)", FoldedHeaps.BAD, x -> x.read(0, lane, 0, 1));
            e.refused("read(3, " + lane + ", 0, 0)", FoldedHeaps.BAD, x -> x.read(3, lane, 0, 0));
        }
        for (int n : Edges.outside(0, 13)) {
            e.refused("read(0, 0, 0, " + n + ")", FoldedHeaps.BAD, x -> x.read(0, 0, 0, n));
            e.refused("read(3, 0, -1, " + n + ")", FoldedHeaps.BAD, x -> x.read(3, 0, -1, n));
        }
    }

    private void refusedReads() {
        int[][] bad = {{6, 0, 0}, {-1, 0, 0}, {0, 3, 0}, {5, -1, 0}, {1, 0, 3}, {2, 0, -1}, {4, 0, 3}};
        for (int[] b : bad) {
            e.refused(() -> withDeed(b, 2), "read of one that is bad, the 2nd behind two", -22, x -> x.read(1, 2, 0, 4));
            e.refused(() -> withDeed(b, 0), "read of one that is bad, the first", -20, x -> x.read(1, 2, 0, 4));
        }
        // the last of 13, and by what is full
        e.refused(() -> Edges.sixNodes().lays(1, 0, lastIsNew()), "read of 13, the last is full", -32,
            x -> x.read(1, 0, 0, 13));
        e.refused(() -> new Calls().lays(1, 0, news(39)), "read of 13 that are new", -26, x -> x.read(1, 0, 0, 13));
        Calls x = new Calls().lays(1, 0, news(39));
        e.due("read of the 6 that there is room for", 6, x.read(1, 0, 0, 6));
        e.due("rule(0)", 6, x.rule(0));
        // what is not looked at is never refused
        Calls free = new Calls().lays(0, 2, 0, 0, 99, 3, 2, -1, 5, 1, Integer.MIN_VALUE);
        e.due("read with a w that is not looked at", 3, free.read(0, 2, 0, 3));
    }

    /** Deeds that change much, and at the i-th place one that is refused. */
    private static Calls withDeed(int[] bad, int i) {
        int[] cells = {5, 1, 0, 4, 0, 1, 1, 2, 0, 3, 0, 0};
        System.arraycopy(bad, 0, cells, 3 * i, 3);
        Calls x = Calls.told("node;many;at x 0;at y 1 maybe;next 0 1 maybe;next 1 1;ask some a:at x a;");
        x.keep(1);
        x.read(3, 0, 0, 1);
        return x.lays(1, 2, cells);
    }

    private static int[] lastIsNew() {
        int[] cells = new int[39];
        for (int i = 0; i < 36; i += 3) {
            cells[i] = i % 2 == 0 ? 3 : 0;
            cells[i + 1] = i / 3 % 3;
        }
        cells[36] = 5;
        return cells;
    }

    private void firstMet() {
        // a deed that is refused lies ahead of the end of the row, or behind it
        Calls refused = new Calls().lays(0, 0, 5, 0, 0, 7, 0, 0, 5, 0);
        e.due("read: refused ahead of torn", -21, refused.read(0, 0, 0, 3));
        e.due("rule(0): none came", 0, refused.rule(0));
        Calls torn = new Calls().lays(0, 0, 5, 0, 0, 7, 7);
        e.due("read: torn where one that is not whole would be refused", 1, torn.read(0, 0, 0, 2));
        e.due("torn()", 2, torn.torn());
        e.due("rule(0): the one ahead came", 1, torn.rule(0));
        Calls both = new Calls().lays(0, 0, 5, 0, 0, 9, 0, 0, 8, 0, 0);
        e.due("read: the first of two that are refused", -21, both.read(0, 0, 0, 3));
        Calls lane = new Calls().lays(0, 0, 9, 9, 9);
        e.due("read: another lane ahead of what is refused", 0, lane.read(0, 1, 0, 1));
        e.due("torn()", 3, lane.torn());
    }

    private void latestFault() {
        Calls x = new Calls().lays(0, 0, 5, 0, 0, 9);
        e.due("torn() ahead of any read()", 0, x.torn());
        x.read(0, 0, 0, 2);
        e.due("torn(): index", 2, x.torn());
        e.due("torn() again", 2, x.torn());
        // reads that did not come to an end
        e.due("read of 14", FoldedHeaps.BAD, x.read(0, 0, 0, 14));
        e.due("torn() behind one that is bad", 2, x.torn());
        x.lay(0, 0, 7);
        e.due("read of one that is refused", -20, x.read(0, 0, 0, 1));
        e.due("torn() behind one that is refused", 2, x.torn());
        x.lay(0, 0, 0);
        e.due("read that is whole", 1, x.read(0, 0, 0, 1));
        e.due("torn() behind it", 0, x.torn());
        e.due("read of one that is refused", -20, badBehind(x).read(0, 0, 0, 1));
        e.due("torn() behind one that is refused", 0, x.torn());
        x.read(1, 0, 0, 1);
        e.due("torn(): null", 1, x.torn());
        x.read(0, 2, 0, 1);
        e.due("torn(): cast", 3, x.torn());
        e.due("read of none", 0, x.read(0, 0, 0, 0));
        e.due("torn() behind it", 0, x.torn());
    }

    private static Calls badBehind(Calls x) {
        x.lay(0, 0, 7);
        return x;
    }
}
