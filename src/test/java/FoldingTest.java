/** Promises 18 to 21: folding, sharpening, ways and splits. */
final class FoldingTest {
    private static final Check CHECK = new Check("FoldingTest");

    public static void main(String[] args) {
        folds();
        foldsOneBehindAnother();
        sharpens();
        ways();
        splits();
        splitsOneBehindAnother();
        CHECK.close();
    }

    private static void folds() {
        FoldedHeaps x = new FoldedHeaps();
        CHECK.due("fold(2)", FoldedHeaps.BAD, x.fold(2));
        CHECK.due("fold(-1)", FoldedHeaps.BAD, x.fold(-1));
        CHECK.due("fold(0) of none", 0, x.fold(0));
        CHECK.due("fold(1) of none", 0, x.fold(1));
        String chain = "node;node;node;node;at x 0;next 0 1;next 1 2;";
        folded(chain, 0, 2, "01|20|00|00|01 01");
        // the last one is not reached, so it stays for itself
        folded(chain, 1, 3, "010|200|000|000|010 010 000");
        // numbered by the first of each; the same truth in all stays
        folded("node;many;node;node;at y 1 maybe;at y 3 maybe;next 0 1;next 0 3;next 2 1;next 2 3;next 1 0;next 3 2 maybe;",
            0, 2, "11|00|01|00|02 10");
        folded("many;node;at x 1;next 0 0;next 1 0;", 0, 2, "10|02|00|00|20 20");
        folded("many;many;next 0 0;next 0 1;next 1 0;next 1 1;", 0, 1, "1|0|0|0|2");
        folded("many;many;next 0 0;next 0 1;next 1 0;next 1 1 maybe;", 1, 1, "1|0|0|0|1");
        folded("node;node;next 0 1;", 0, 1, "1|0|0|0|1");
        // a yes and a maybe are not alike
        folded("node;node;at x 0;at x 1 maybe;", 0, 2, "00|21|00|00|00 00");
        folded("node;node;at z 0;at y 1;", 0, 2, "00|00|02|20|00 00");
    }

    private static void foldsOneBehindAnother() {
        FoldedHeaps x = Check.told("node;node;node;node;at x 0;at y 2;next 0 1;next 1 2;next 2 3;next 3 3;");
        CHECK.due("fold(1)", 4, x.fold(1));
        x.place(1, 2, 0);
        CHECK.due("fold(1)", 2, x.fold(1));
        CHECK.shapeIs("fold(1)", "01|20|00|00|01 01", x);
        x.lead(0, 1, 0);
        x.lead(1, 1, 0);
        x.place(0, 0, 0);
        CHECK.due("fold(0)", 1, x.fold(0));
        CHECK.shapeIs("fold(0)", "1|0|0|0|0", x);
        CHECK.due("add(0)", 2, x.add(0));
        CHECK.shapeIs("add(0)", "10|00|00|00|00 00", x);
    }

    private static void folded(String text, int mode, int nodes, String shape) {
        FoldedHeaps x = Check.told(text);
        CHECK.due("fold(" + mode + ") of " + text, nodes, x.fold(mode));
        CHECK.shapeIs("fold(" + mode + ") of " + text, shape, x);
    }

    private static void sharpens() {
        sharpened("", 0, "||||");
        sharpened("many;node;at x 0;at x 1 maybe;", 2, "00|20|00|00|00 00");
        sharpened("many;node;at x 0 maybe;at x 1 maybe;", 0, "10|11|00|00|00 00");
        sharpened("node;node;node;next 0 1;next 0 2 maybe;next 0 0 maybe;", 2, "000|000|000|000|020 000 000");
        sharpened("node;many;node;next 0 1;next 0 2 maybe;", 0, "010|000|000|000|021 000 000");
        // one thing is drawn from another one: node 1 is single, so node 0 leads there alone
        sharpened("node;many;node;next 0 1;next 0 2 maybe;at z 1;", 2, "000|000|000|020|020 000 000");
        sharpened("many;node;next 0 1;next 0 0 maybe;", 1, "10|00|00|00|02 00");
        impossible("node;node;at x 0;at x 1;");
        impossible("node;node;next 0 1;next 0 0;");
        impossible("node;many;next 0 1;next 0 0;");
        impossible("many;many;next 0 1;next 0 0;at x 0;");
        sharpened("many;many;next 0 1;next 0 0;", 0, "11|00|00|00|22 00");
        FoldedHeaps x = Check.told("many;many;node;at y 0;at y 1 maybe;next 2 0;next 2 1 maybe;");
        CHECK.due("sharpen()", 3, x.sharpen());
        CHECK.due("sharpen() again", 0, x.sharpen());
    }

    private static void sharpened(String text, int changes, String shape) {
        FoldedHeaps x = Check.told(text);
        CHECK.due("sharpen() of " + text, changes, x.sharpen());
        CHECK.shapeIs("sharpen() of " + text, shape, x);
    }

    private static void impossible(String text) {
        FoldedHeaps x = Check.told("many;many;" + text.replace('1', '3').replace('0', '2') + "at z 0;at z 1 maybe;");
        String was = Check.shape(x);
        CHECK.due("sharpen() of " + text, FoldedHeaps.STATE, x.sharpen());
        CHECK.shapeIs("sharpen() of " + text, was, x);
    }

    private static void ways() {
        ways("", 0, 1);
        ways("node;many;at x 0;at x 1 maybe;", 0, 1);
        ways("node;many;at x 0;at x 1;", 0, 2);
        ways("node;many;at y 0 maybe;at y 1 maybe;", 1, 4);
        ways("node;many;at y 0 maybe;at y 1 maybe;", 2, 1);
        FoldedHeaps x = new FoldedHeaps();
        CHECK.due("ways(3)", FoldedHeaps.BAD, x.ways(3));
        CHECK.due("ways(-1)", FoldedHeaps.BAD, x.ways(-1));
    }

    private static void ways(String text, int v, int want) {
        CHECK.due("ways(" + v + ") of " + text, want, Check.told(text).ways(v));
    }

    private static void splits() {
        String text = "node;many;node;at x 1 maybe;at x 2 maybe;at y 1 maybe;at z 1;"
            + "next 0 1;next 1 1 maybe;next 1 2;next 2 1 maybe;next 1 0 maybe;";
        split(text, 0, 0, 3, "010|000|010|020|020 112 010");
        split(text, 0, 1, 3, "000|020|010|020|020 112 010");
        split(text, 0, 2, 4, "0001|0200|0101|0202|0202 1121 0101 1121");
        split(text, 0, 3, 3, "010|002|010|020|020 112 010");
        split(text, 2, 0, 3, "000|011|010|020|020 112 010");
        split(text, 0, 4, FoldedHeaps.BAD, "010|011|010|020|020 112 010");
        split(text, 0, -1, FoldedHeaps.BAD, "010|011|010|020|020 112 010");
        split(text, 2, 1, FoldedHeaps.BAD, "010|011|010|020|020 112 010");
        split(text, 3, 0, FoldedHeaps.BAD, "010|011|010|020|020 112 010");
        split(text, -1, 0, FoldedHeaps.BAD, "010|011|010|020|020 112 010");
        split("many;at x 0 maybe;at y 0 maybe;at z 0;", 1, 2, 2, "01|11|20|22|00 00");
        split("many;at x 0 maybe;at z 0 maybe;next 0 0;", 2, 2, 2, "01|11|00|20|22 22");
        split("many;many;at x 0;at x 1;", 0, 1, 2, "10|02|00|00|00 00");
        split("many;many;at x 0;at x 1 maybe;", 0, 0, 2, "01|20|00|00|00 00");
        split("", 0, 0, 0, "||||");
        FoldedHeaps x = Check.told("many;node;node;node;node;node;at x 0 maybe;at x 5 maybe;");
        String was = Check.shape(x);
        CHECK.due("split(0, 2) with 6 nodes", FoldedHeaps.FULL, x.split(0, 2));
        CHECK.shapeIs("a split that is full", was, x);
        CHECK.due("split(0, 4) with 6 nodes", FoldedHeaps.BAD, x.split(0, 4));
        CHECK.due("split(0, 1) with 6 nodes", 6, x.split(0, 1));
    }

    /** A split that is refused, or one beside others, leaves nothing behind for the next. */
    private static void splitsOneBehindAnother() {
        FoldedHeaps x = Check.told("many;node;at x 0 maybe;at x 1 maybe;at y 1 maybe;");
        CHECK.due("split(0, 2)", 3, x.split(0, 2));
        CHECK.shapeIs("split(0, 2)", "001|200|010|000|000 000 000", x);
        CHECK.due("split(1, 9)", FoldedHeaps.BAD, x.split(1, 9));
        CHECK.due("split(1, 1)", 3, x.split(1, 1));
        CHECK.shapeIs("split(1, 1)", "001|200|020|000|000 000 000", x);
        CHECK.due("split(2, 0)", 3, x.split(2, 0));
    }

    private static void split(String text, int v, int k, int answer, String shape) {
        String call = "split(" + v + ", " + k + ") of " + text;
        FoldedHeaps x = Check.told(text);
        CHECK.due(call, answer, x.split(v, k));
        CHECK.shapeIs(call, shape, x);
    }
}
