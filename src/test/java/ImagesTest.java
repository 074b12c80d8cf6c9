/** Promises 23 to 25 and 30: images, what covers what, counts. */
final class ImagesTest {
    private static final Check CHECK = new Check("ImagesTest");

    public static void main(String[] args) {
        images();
        covers();
        foldingCovers();
        counts();
        CHECK.close();
    }

    private static void images() {
        FoldedHeaps x = Check.told("node;many;at x 0;next 0 1;ask some a:at x a;");
        String first = Check.shape(x);
        CHECK.due("keep(2)", FoldedHeaps.BAD, x.keep(2));
        CHECK.due("keep(-1)", FoldedHeaps.BAD, x.keep(-1));
        CHECK.due("back(2)", FoldedHeaps.BAD, x.back(2));
        CHECK.due("back(-1)", FoldedHeaps.BAD, x.back(-1));
        CHECK.due("back(0) of none", FoldedHeaps.STATE, x.back(0));
        CHECK.due("keep(0)", 0, x.keep(0));
        x.deed(5, 1, 0);
        x.lead(2, 0, 1);
        String second = Check.shape(x);
        CHECK.due("keep(1)", 0, x.keep(1));
        CHECK.due("back(0)", 2, x.back(0));
        CHECK.shapeIs("back(0)", first, x);
        x.lose(0);
        CHECK.due("back(1)", 3, x.back(1));
        CHECK.shapeIs("back(1)", second, x);
        CHECK.due("keep(0) again", 1, x.keep(0));
        x.lose(0);
        CHECK.due("back(0) again", 3, x.back(0));
        CHECK.shapeIs("back(0) again", second, x);
        CHECK.due("rule(1): formulas stay", 1, x.rule(1));
        CHECK.due("back(1) stays", 3, x.back(1));
    }

    private static void covers() {
        covering("", "", 1);
        covering("node;", "", 0);
        covering("", "node;", 0);
        covering("node;", "node;", 1);
        covering("many;", "node;", 1);
        covering("node;", "many;", 0);
        covering("many;", "many;", 1);
        covering("many;", "node;node;", 1);
        covering("node;", "node;node;", 0);
        covering("node;node;", "node;", 0);
        covering("node;at x 0 maybe;", "node;", 1);
        covering("node;at x 0 maybe;", "node;at x 0;", 1);
        covering("node;at x 0;", "node;at x 0 maybe;", 0);
        covering("node;", "node;at x 0 maybe;", 0);
        covering("many;next 0 0;", "node;node;next 0 0;next 0 1;next 1 0;", 0);
        covering("many;next 0 0;", "node;node;next 0 0;next 0 1;next 1 0;next 1 1;", 1);
        covering("many;next 0 0 maybe;", "node;node;next 0 1;", 1);
        // the nodes may be told crosswise
        covering("node;node;at x 0;at y 1;next 0 1;", "node;node;at x 1;at y 0;next 1 0;", 1);
        covering("node;node;at x 0;at y 1;next 0 1;", "node;node;at x 1;at y 0;next 0 1;", 0);
        // a first choice that fits may have to be taken back
        covering("many;node;next 0 0 maybe;next 0 1 maybe;", "node;node;node;next 0 1;next 1 2;", 1);
        covering("many;node;next 0 0 maybe;next 0 1 maybe;", "node;node;node;next 0 1;next 1 2;next 2 0;", 0);
        covering("node;node;node;node;node;node;", "node;node;node;node;node;node;", 1);
        covering("node;node;node;node;node;node;", "node;node;node;node;node;node;next 5 5;", 0);
        askedAgain();
        FoldedHeaps x = Check.told("node;");
        CHECK.due("covers(0, 0) of none", FoldedHeaps.STATE, x.covers(0, 0));
        CHECK.due("covers(2, 0)", FoldedHeaps.BAD, x.covers(2, 0));
        CHECK.due("covers(-1, 0)", FoldedHeaps.BAD, x.covers(-1, 0));
        CHECK.due("covers(0, 2)", FoldedHeaps.BAD, x.covers(0, 2));
        CHECK.due("covers(0, -1)", FoldedHeaps.BAD, x.covers(0, -1));
    }

    private static void askedAgain() {
        FoldedHeaps x = Check.told("node;node;node;at x 0;next 0 1;next 1 2;");
        x.keep(0);
        x.fold(0);
        for (int time = 0; time < 3; time++) {
            CHECK.due("covers(0, 0), time " + time, 1, x.covers(0, 0));
            CHECK.due("covers(0, 1), time " + time, 0, x.covers(0, 1));
        }
        x.back(0);
        CHECK.due("covers(0, 1) of itself", 1, x.covers(0, 1));
    }

    /** Asked both ways: as the shape over an image, as an image over the shape. */
    private static void covering(String wide, String other, int want) {
        String what = wide + " covers " + other;
        CHECK.due(what, want, withImage(wide, other).covers(0, 0));
        CHECK.due(what + " (as the image)", want, withImage(other, wide).covers(0, 1));
    }

    /** A text takes images away, so the image is made by hand. */
    private static FoldedHeaps withImage(String shape, String image) {
        FoldedHeaps x = Check.told(shape);
        FoldedHeaps from = Check.told(image);
        copy(from, x);
        x.keep(0);
        copy(Check.told(shape), x);
        return x;
    }

    private static void copy(FoldedHeaps from, FoldedHeaps to) {
        while (to.rule(0) > 0) {
            to.lose(0);
        }
        for (int i = 0; i < from.rule(0); i++) {
            to.add(from.node(i, 0));
        }
        for (int i = 0; i < from.rule(0); i++) {
            for (int v = 0; v < 3; v++) {
                to.place(v, i, from.node(i, v + 1));
            }
            for (int j = 0; j < from.rule(0); j++) {
                to.lead(i, j, from.pair(i, j, 0));
            }
        }
    }

    /** What was folded still tells what was run. */
    private static void foldingCovers() {
        for (int seed = 0; seed < 300; seed++) {
            FoldedHeaps x = new FoldedHeaps();
            x.run(seed * 7919, 20);
            x.keep(0);
            x.fold(seed % 2);
            CHECK.due("covers(0, 0) of what was folded, seed " + seed, 1, x.covers(0, 0));
        }
    }

    private static void counts() {
        FoldedHeaps x = Check.told("ask all a:many a not;ask all b:many b;");
        CHECK.due("count(3)", 3, x.count(3));
        x.feed(1);
        x.feed(2);
        CHECK.due("count(1)", 2, x.count(1));
        x.keep(1);
        CHECK.due("count(0)", 1, x.count(0));
        x.keep(0);
        x.keep(0);
        CHECK.due("count(0) of two", 2, x.count(0));
        x.sheet(1, 0, 5);
        CHECK.due("count(2): nothing", FoldedHeaps.NONE, x.count(2));
        x.sheet(0, 2, 0);
        CHECK.due("count(2): no cells", 0, x.count(2));
        x.sheet(0, 1, 40);
        CHECK.due("count(2)", 40, x.count(2));
        x.sheet(0, 1, -1);
        CHECK.due("count(2) behind one refused", 40, x.count(2));
        CHECK.due("count(4)", FoldedHeaps.BAD, x.count(4));
        CHECK.due("count(-1)", FoldedHeaps.BAD, x.count(-1));
    }
}
