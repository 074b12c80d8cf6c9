/** Promises 23 to 25 and 30: images, what covers what, counts. */
final class ImageEdges {
    private static final String SIX = "node;node;node;node;node;node;";

    private final Edges e;

    ImageEdges(Edges edges) {
        e = edges;
    }

    void all() {
        e.sentence(23, "IMAGE k (0, 1) is the SHAPE (not the FORMULAS): whether there was one (1, 0).", this::keeps);
        e.sentence(23, "BAD.", this::badKeeps);
        e.sentence(24, "The SHAPE is as IMAGE k: NODES.", this::backs);
        e.sentence(24, "BAD;", this::badBacks);
        e.sentence(24, "STATE: there is none.", this::backsOfNone);
        e.sentence(25, "A SHAPE COVERS another one, if each of the NODES of that can be told to a NODE of the first,",
            this::eachCanBeTold);
        e.sentence(25, "each of the first having one at least,", this::havingOneAtLeast);
        e.sentence(25, "MANY if it has several or one that is MANY,", this::manyIfItHasSeveral);
        e.sentence(25, "and AT, NEXT of the first for those told to are maybe, or as in the other one (NEXT of all pairs).",
            this::maybeOrAsInTheOther);
        e.sentence(25, "Whether the SHAPE COVERS IMAGE k (what 0), that COVERS the SHAPE (1) (1, 0).", this::coversAsked);
        e.sentence(25, "BAD;", this::badCovers);
        e.sentence(25, "STATE: there is none.", this::coversOfNone);
        e.sentence(30, "How many: 0 IMAGES,", this::imagesCounted);
        e.sentence(30, "1 bytes on THE TAPE,", this::bytesCounted);
        e.sentence(30, "2 CELLS of SHEET 0 (NONE: nothing),", this::cellsCounted);
        e.sentence(30, "3 ITEMS of all FORMULAS.", this::itemsCounted);
        e.sentence(30, "BAD.", this::badCounts);
    }

    private void keeps() {
        Calls x = Calls.told("node;many;at x 0;next 0 1;ask some a:at x a;");
        String first = x.shape();
        e.due("keep(0)", 0, x.keep(0));
        e.due("keep(0) again", 1, x.keep(0));
        e.due("keep(1)", 0, x.keep(1));
        x.lose(0);
        e.due("keep(1), of another shape", 1, x.keep(1));
        e.due("back(0)", 2, x.back(0));
        e.shape("back(0)", first, x);
        e.due("back(1)", 1, x.back(1));
        e.shape("back(1)", "1|0|0|0|0", x);
        e.due("rule(1): the formulas are not of the image", 1, x.rule(1));
        Calls none = new Calls();
        e.due("keep(0) of no nodes", 0, none.keep(0));
        e.due("keep(0) of no nodes, again", 1, none.keep(0));
        e.due("back(0) of no nodes", 0, none.back(0));
    }

    private void badKeeps() {
        for (int k : Edges.outside(0, 1)) {
            e.refused("keep(" + k + ")", FoldedHeaps.BAD, x -> x.keep(k));
        }
    }

    private void backs() {
        Calls x = Edges.sixNodes();
        String six = x.shape();
        for (int i = 0; i < 6; i++) {
            x.lose(0);
        }
        e.due("keep(1) of no nodes", 0, x.keep(1));
        e.due("back(0)", 6, x.back(0));
        e.shape("back(0)", six, x);
        e.due("back(1)", 0, x.back(1));
        e.shape("back(1)", "||||", x);
        // what was there ahead of it must not come again
        x.add(0);
        e.shape("add(0)", "0|0|0|0|0", x);
        e.due("back(0), the image is still there", 6, x.back(0));
        // the image is no part of the shape: what is changed then stays out of it
        x.place(0, 0, 2);
        x.lead(5, 5, 2);
        x.many(0, 1);
        e.due("back(0) once more", 6, x.back(0));
        e.shape("back(0)", six, x);
    }

    private void badBacks() {
        for (int k : Edges.outside(0, 1)) {
            e.refused("back(" + k + ")", FoldedHeaps.BAD, x -> x.back(k));
        }
        e.due("back(2) of a new one", FoldedHeaps.BAD, new Calls().back(2));
    }

    private void backsOfNone() {
        e.due("back(0) of a new one", FoldedHeaps.STATE, new Calls().back(0));
        e.due("back(1) of a new one", FoldedHeaps.STATE, new Calls().back(1));
        e.refused(Edges::sixNodes, "back(1) where 0 alone is kept", FoldedHeaps.STATE, x -> x.back(1));
        Calls x = Edges.sixNodes();
        x.text();
        e.due("back(0) behind a text", FoldedHeaps.STATE, x.back(0));
    }

    /** Asked both ways: as the shape over an image, and as an image over the shape. */
    private void covering(String first, String other, int want) {
        String what = first + " covers " + other;
        e.due(what, want, withImage(first, other).covers(0, 0));
        e.due(what + " (as an image)", want, withImage(other, first).covers(0, 1));
    }

    /** A text takes the images away, so the shape that is kept is built by hand. */
    private static Calls withImage(String shape, String image) {
        Calls x = new Calls();
        build(x, image);
        x.keep(0);
        while (x.rule(0) > 0) {
            x.lose(0);
        }
        build(x, shape);
        return x;
    }

    private static void build(Calls x, String text) {
        Calls from = Calls.told(text);
        int n = from.rule(0);
        for (int i = 0; i < n; i++) {
            x.add(from.node(i, 0));
        }
        for (int i = 0; i < n; i++) {
            for (int v = 0; v <= 2; v++) {
                x.place(v, i, from.node(i, v + 1));
            }
            for (int j = 0; j < n; j++) {
                x.lead(i, j, from.pair(i, j, 0));
            }
        }
    }

    private void eachCanBeTold() {
        covering("", "", 1);
        covering("", "node;", 0);
        covering("node;", "node;", 1);
        covering("node;at x 0;", "node;node;at x 0;", 0);
        covering("node;many;at x 0;", "node;node;node;at x 2;", 1);
        // crosswise
        covering("node;node;at x 0;at y 1;next 0 1;", "node;node;at x 1;at y 0;next 1 0;", 1);
        covering("node;node;at x 0;at y 1;next 0 1;", "node;node;at x 1;at y 0;next 0 1;", 0);
        // a first choice that fits may have to be taken back
        covering("many;node;next 0 0 maybe;next 0 1 maybe;", "node;node;node;next 0 1;next 1 2;", 1);
        covering("many;node;next 0 0 maybe;next 0 1 maybe;", "node;node;node;next 0 1;next 1 2;next 2 0;", 0);
        covering(SIX + "next 0 1;next 1 2;next 2 3;next 3 4;next 4 5;",
            SIX + "next 5 4;next 4 3;next 3 2;next 2 1;next 1 0;", 1);
        covering(SIX + "next 0 1;next 1 2;next 2 3;next 3 4;next 4 5;next 5 0;",
            SIX + "next 0 1;next 1 2;next 2 0;next 3 4;next 4 5;next 5 3;", 0);
    }

    private void havingOneAtLeast() {
        covering("node;", "", 0);
        covering("many;", "", 0);
        covering("node;node;", "node;", 0);
        covering("many;many;", "node;", 0);
        covering("many;node;", "node;node;", 1);
        covering(SIX, SIX, 1);
        covering(SIX, "node;node;node;node;node;", 0);
        covering("many;node;at y 1;", "node;node;", 0);
        covering("many;node;at y 1;", "node;node;node;", 0);
        covering("many;many;at y 1;", "node;node;at y 0;", 1);
    }

    private void manyIfItHasSeveral() {
        covering("node;", "node;node;", 0);
        covering("many;", "node;node;", 1);
        covering("node;", "many;", 0);
        covering("many;", "many;", 1);
        covering("many;", "node;many;", 1);
        // one that is not many is enough for one that is
        covering("many;", "node;", 1);
        covering("many;", SIX, 1);
        covering("node;", SIX, 0);
        covering("node;node;at x 0;", "many;node;at x 1;", 0);
        covering("many;node;at x 1;", "many;node;at x 1;", 1);
        covering("many;node;at x 1;", "many;node;at x 0;", 0);
    }

    private void maybeOrAsInTheOther() {
        for (int first = 0; first <= 2; first++) {
            for (int other = 0; other <= 2; other++) {
                int want = first == 1 || first == other ? 1 : 0;
                for (String table : new String[] {"at x 0", "at y 0", "at z 0", "next 0 0"}) {
                    covering("node;" + told(table, first), "node;" + told(table, other), want);
                }
                String two = "node;node;at x 0;";
                covering(two + told("next 0 1", first), two + told("next 0 1", other), want);
                covering(two + told("next 1 0", first), two + told("next 1 0", other), want);
            }
        }
        // all pairs of those told to one count, each with itself too
        String pairs = "next 0 0;next 0 1;next 1 0;next 1 1;";
        covering("many;next 0 0;", "node;node;" + pairs, 1);
        for (String pair : pairs.split(";")) {
            covering("many;next 0 0;", "node;node;" + pairs.replace(pair + ";", ""), 0);
            covering("many;", "node;node;" + pair + ";", 0);
            covering("many;next 0 0 maybe;", "node;node;" + pair + ";", 1);
        }
    }

    private static String told(String line, int truth) {
        return truth == 0 ? "" : line + (truth == 1 ? " maybe;" : ";");
    }

    private void coversAsked() {
        Calls x = Calls.told("node;node;at x 0;next 0 1;");
        x.keep(0);
        x.keep(1);
        for (int k = 0; k <= 1; k++) {
            e.due("covers(" + k + ", 0) of itself", 1, x.covers(k, 0));
            e.due("covers(" + k + ", 1) of itself", 1, x.covers(k, 1));
        }
        x.many(1, 1);
        x.lead(0, 1, 1);
        e.due("covers(0, 0), the shape tells less", 1, x.covers(0, 0));
        e.due("covers(0, 1), the shape tells less", 0, x.covers(0, 1));
        x.keep(1);
        x.back(0);
        e.due("covers(1, 0), the image tells less", 0, x.covers(1, 0));
        e.due("covers(1, 1), the image tells less", 1, x.covers(1, 1));
        e.shape("asking", "00|20|00|00|02 00", x);
    }

    private void badCovers() {
        for (int out : Edges.outside(0, 1)) {
            e.refused("covers(" + out + ", 0)", FoldedHeaps.BAD, x -> x.covers(out, 0));
            e.refused("covers(0, " + out + ")", FoldedHeaps.BAD, x -> x.covers(0, out));
        }
        e.due("covers(0, 2) of none", FoldedHeaps.BAD, new Calls().covers(0, 2));
    }

    private void coversOfNone() {
        for (int what = 0; what <= 1; what++) {
            int asked = what;
            e.due("covers(0, " + what + ") of a new one", FoldedHeaps.STATE, new Calls().covers(0, what));
            e.refused(Edges::sixNodes, "covers(1, " + what + ") where 0 alone is kept", FoldedHeaps.STATE,
                x -> x.covers(1, asked));
        }
    }

    private void imagesCounted() {
        Calls x = new Calls();
        e.due("count(0) of none", 0, x.count(0));
        x.keep(1);
        e.due("count(0)", 1, x.count(0));
        x.keep(1);
        e.due("count(0), the same again", 1, x.count(0));
        x.keep(0);
        e.due("count(0) of both", 2, x.count(0));
        x.back(0);
        e.due("count(0) behind back(0)", 2, x.count(0));
        x.tell("A");
        e.due("count(0) behind a text with a fault", 2, x.count(0));
        x.text();
        e.due("count(0) behind a text that is taken", 0, x.count(0));
    }

    private void bytesCounted() {
        Calls x = new Calls();
        e.due("count(1) of none", 0, x.count(1));
        x.feedAll(" ".repeat(319));
        e.due("count(1)", 319, x.count(1));
        x.feed(' ');
        e.due("count(1) of a full tape", 320, x.count(1));
        x.feed(' ');
        e.due("count(1) behind one that is full", 320, x.count(1));
        x.end(7);
        e.due("count(1) behind end(7)", 7, x.count(1));
        x.text();
        e.due("count(1) behind text()", 0, x.count(1));
    }

    private void cellsCounted() {
        Calls x = new Calls();
        e.due("count(2) of nothing", FoldedHeaps.NONE, x.count(2));
        x.sheet(1, 0, 5);
        e.due("count(2), another sheet", FoldedHeaps.NONE, x.count(2));
        x.sheet(0, 0, -1);
        e.due("count(2), one that is refused", FoldedHeaps.NONE, x.count(2));
        for (int n : new int[] {0, 1, 40, 0}) {
            for (int lane = 0; lane <= 2; lane++) {
                x.sheet(0, lane, n);
                e.due("count(2)", n, x.count(2));
            }
        }
    }

    private void itemsCounted() {
        e.due("count(3) of none", 0, new Calls().count(3));
        e.due("count(3) of one", 1, Calls.told("ask all a:many a;").count(3));
        String twelve = "ask all a:many a" + " not".repeat(11) + ";";
        e.due("count(3) of four with 12 each", 48, Calls.told(twelve.repeat(4)).count(3));
        Calls x = Calls.told("ask all a:many a;ask all a:many a many a or;");
        e.due("count(3) of two", 4, x.count(3));
        x.text();
        e.due("count(3) behind an empty text", 0, x.count(3));
    }

    private void badCounts() {
        for (int what : Edges.outside(0, 3)) {
            e.refused("count(" + what + ")", FoldedHeaps.BAD, x -> x.count(what));
        }
    }
}
