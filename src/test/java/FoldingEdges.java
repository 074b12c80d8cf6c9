/** Promises 18 to 21: folding, sharpening, ways and splits. */
final class FoldingEdges {
    private static final String SIX = "node;node;node;node;node;node;";
    private static final String NO_NEXTS = "000000 000000 000000 000000 000000 000000";

    private final Edges e;

    FoldingEdges(Edges edges) {
        e = edges;
    }

    void all() {
        e.sentence(18, "FOLDED: NODES whose AT of all VARIABLES are alike (by REACH, too, with mode 1) become one, "
            + "numbered by the first of each:", this::alikeBecomeOne);
        e.sentence(18, "MANY, if there are several, or it was;", this::foldedManys);
        e.sentence(18, "AT, NEXT: what they all have, if that is one TRUTH, else maybe.", this::foldedTruths);
        e.sentence(18, "It is FOLDED (mode 0, 1): how many NODES are left.", this::folds);
        e.sentence(18, "BAD.", this::badFolds);
        sharpening();
        waysAndSplits();
    }

    private void sharpening() {
        e.sentence(19, "SHARPENED, over and over till nothing changes:", this::overAndOver);
        e.sentence(19, "a VARIABLE with a yes: that NODE is not MANY, its other ATS are no;", this::variablesWithAYes);
        e.sentence(19, "a NODE with a yes in NEXT to one that is not MANY: its other NEXTS are no.", this::nodesWithAYes);
        e.sentence(19, "A yes that would be no: there is no such thing.", this::noSuchThing);
        e.sentence(19, "It is SHARPENED: how many TRUTHS, MANYS are others then.", this::sharpens);
        e.sentence(19, "STATE: there is no such thing (nothing changes).", this::refusedSharpens);
    }

    private void waysAndSplits() {
        e.sentence(20, "WAYS of a VARIABLE, by order: is no AT yes, first that it is nothing;", this::wayToNothing);
        e.sentence(20, "then for each NODE i with AT not no (is any AT yes, for those with yes alone): that it is there alone;",
            this::waysAlone);
        e.sentence(20, "and, is i MANY and AT maybe there, next that it is there beside others of i.", this::waysBeside);
        e.sentence(20, "How many WAYS a VARIABLE has.", this::numberOfWays);
        e.sentence(20, "BAD.", this::badWays);
        e.sentence(21, "SPLIT to one of them: to nothing: all its ATS are no.", this::splitToNothing);
        e.sentence(21, "To i: AT of it and i is yes, its others no; i is not MANY;", this::splitToOne);
        e.sentence(21, "beside others: a NODE more comes behind all others, MANY, with what i had: "
            + "AT of the VARIABLE no, of the others as of i;", this::splitBesideOthers);
        e.sentence(21, "NEXTS to and from all others as of i, between both and to itself as of i to itself.",
            this::nextsOfASplit);
        e.sentence(21, "It is SPLIT to the k-th (0 on) of the WAYS of a VARIABLE: how many NODES there are.", this::splits);
        e.sentence(21, "BAD: also no such WAY;", this::badSplits);
        e.sentence(21, "FULL: one more would come than 6.", this::fullSplits);
    }

    private void folded(String text, int mode, int nodes, String shape) {
        Calls x = Calls.told(text);
        e.due("fold(" + mode + ") of " + text, nodes, x.fold(mode));
        e.shape("fold(" + mode + ") of " + text, shape, x);
    }

    private void alikeBecomeOne() {
        // 0, 2 and 5 are alike, 1 and 4 are, 3 is alone
        folded(SIX + "at y 1;at y 4;at z 3 maybe;", 0, 3, "110|000|020|001|000 000 000");
        folded(SIX + "at x 0;at x 2;at x 5;at y 1;at y 4;", 0, 3, "110|200|020|000|000 000 000");
        // one variable is enough to be another, whichever, and a maybe is no yes
        folded("node;node;at x 0;", 0, 2, "00|20|00|00|00 00");
        folded("node;node;at y 0;", 0, 2, "00|00|20|00|00 00");
        folded("node;node;at z 1;", 0, 2, "00|00|00|02|00 00");
        folded("node;node;at z 0;at z 1 maybe;", 0, 2, "00|00|00|21|00 00");
        // many and next are not looked at, but what is reached is, with mode 1
        folded("many;node;next 0 0;", 0, 1, "1|0|0|0|1");
        String reached = "node;node;node;node;at x 0;next 0 1;next 1 2;";
        folded(reached, 0, 2, "01|20|00|00|01 01");
        folded(reached, 1, 3, "010|200|000|000|010 010 000");
        folded("node;node;node;at z 0;next 0 1;next 0 2 maybe;", 1, 3, "000|000|000|200|021 000 000");
        folded("node;node;node;at z 0;next 0 1;next 0 2 maybe;", 0, 2, "01|00|00|20|01 00");
        // reached alike is not enough where at is not alike
        folded("node;node;at x 0 maybe;at x 1;next 1 0;next 0 1;", 1, 2, "00|12|00|00|02 20");
    }

    private void foldedManys() {
        folded("node;", 0, 1, "0|0|0|0|0");
        folded("many;", 0, 1, "1|0|0|0|0");
        folded("node;node;", 0, 1, "1|0|0|0|0");
        folded("node;many;", 0, 1, "1|0|0|0|0");
        folded("node;many;node;at x 1;at y 2;", 0, 3, "010|020|002|000|000 000 000");
        folded("many;node;node;at x 0;at y 1;at y 2;", 1, 2, "11|20|02|00|00 00");
    }

    private void foldedTruths() {
        // between two groups of two: all yes, all maybe, all no, one that is another
        String both = "node;node;node;node;at x 2;at x 3;";
        folded(both + "next 0 2;next 0 3;next 1 2;next 1 3;", 0, 2, "11|02|00|00|02 00");
        folded(both + "next 0 2 maybe;next 0 3 maybe;next 1 2 maybe;next 1 3 maybe;", 0, 2, "11|02|00|00|01 00");
        folded(both + "next 0 2;next 0 3;next 1 2;", 0, 2, "11|02|00|00|01 00");
        folded(both + "next 0 2;next 0 3;next 1 2;next 1 3 maybe;", 0, 2, "11|02|00|00|01 00");
        folded(both + "next 2 0 maybe;", 0, 2, "11|02|00|00|00 10");
        folded(both + "next 3 1;", 0, 2, "11|02|00|00|00 10");
        // of one to itself: all four pairs count
        folded("node;node;next 0 0;next 1 1;", 0, 1, "1|0|0|0|1");
        folded("node;node;next 0 0;next 1 1;next 0 1;next 1 0;", 0, 1, "1|0|0|0|2");
        // one alone keeps what it has
        folded("node;many;at x 0;next 0 0 maybe;next 0 1;next 1 0;", 0, 2, "01|20|00|00|12 20");
        folded("node;node;node;at z 0 maybe;at z 1 maybe;at z 2 maybe;", 0, 1, "1|0|0|1|0");
    }

    private void folds() {
        folded("", 0, 0, "||||");
        folded("", 1, 0, "||||");
        folded(SIX, 0, 1, "1|0|0|0|0");
        folded(SIX, 1, 1, "1|0|0|0|0");
        String all = SIX + "at x 0;at x 1 maybe;at y 2;at y 3 maybe;at z 4;";
        folded(all, 0, 6, "000000|210000|002100|000020|" + NO_NEXTS);
        folded(all, 1, 6, "000000|210000|002100|000020|" + NO_NEXTS);
        Calls x = Calls.told(SIX);
        x.fold(0);
        e.due("add(0) behind it", 2, x.add(0));
        e.shape("add(0)", "10|00|00|00|00 00", x);
        e.due("fold(0) again", 1, x.fold(0));
        foldsOneBehindAnother();
    }

    /** What an older fold had must not come again with a node more. */
    private void foldsOneBehindAnother() {
        Calls x = Calls.told("many;many;many;at x 0;at y 1;at z 2;next 0 1;next 1 2;next 2 2;next 2 1;next 0 2;next 1 1;");
        e.due("fold(0) of three that differ", 3, x.fold(0));
        for (int v = 0; v <= 2; v++) {
            x.deed(3, v, 0);
        }
        for (int v = 0; v <= 2; v++) {
            x.deed(0, v, 0);
        }
        e.due("fold(0) of three that are alike then", 1, x.fold(0));
        x.add(0);
        x.add(0);
        e.shape("two more", "100|000|000|000|000 000 000", x);
    }

    private void badFolds() {
        for (int mode : Edges.outside(0, 1)) {
            e.refused("fold(" + mode + ")", FoldedHeaps.BAD, x -> x.fold(mode));
        }
    }

    private void sharpened(String text, int changes, String shape) {
        Calls x = Calls.told(text);
        e.due("sharpen() of " + text, changes, x.sharpen());
        e.shape("sharpen() of " + text, shape, x);
    }

    private void impossible(String text) {
        Calls x = Calls.told(text);
        String was = x.shape();
        e.due("sharpen() of " + text, FoldedHeaps.STATE, x.sharpen());
        e.shape("sharpen() of " + text, was, x);
    }

    private void overAndOver() {
        // node 2 is not many by z, so that 0 and 1 lead there alone
        sharpened("node;node;many;next 0 2;next 0 1 maybe;next 1 2;next 1 0 maybe;at z 2;", 3,
            "000|000|000|002|002 002 000");
        sharpened("many;node;node;next 2 0;next 2 1 maybe;at x 0;at x 1 maybe;at x 2 maybe;", 4,
            "000|200|000|000|000 000 200");
        Calls x = Calls.told("many;many;node;at y 0;at y 1 maybe;next 2 0;next 2 1 maybe;");
        e.due("sharpen()", 3, x.sharpen());
        e.due("sharpen() again: nothing changes any more", 0, x.sharpen());
        // what is impossible comes out only by what was drawn ahead of it
        impossible("many;many;next 1 0;next 1 1;at y 0;");
    }

    private void variablesWithAYes() {
        sharpened("many;node;at x 0;", 1, "00|20|00|00|00 00");
        sharpened("node;node;at y 1;at y 0 maybe;", 1, "00|00|02|00|00 00");
        sharpened("many;many;many;at z 1;at z 0 maybe;at z 2 maybe;", 3, "101|000|000|020|000 000 000");
        // the other variables keep theirs
        sharpened("node;node;at x 0;at x 1 maybe;at y 1 maybe;at z 0 maybe;", 1, "00|20|01|10|00 00");
        // maybes alone draw nothing
        sharpened("many;many;at x 0 maybe;at x 1 maybe;", 0, "11|11|00|00|00 00");
        sharpened(SIX + "at z 5;at z 0 maybe;", 1, "000000|000000|000000|000002|" + NO_NEXTS);
    }

    private void nodesWithAYes() {
        sharpened("node;node;node;next 0 1;next 0 0 maybe;next 0 2 maybe;", 2, "000|000|000|000|020 000 000");
        // the one that leads may be many, the one that it leads to must not
        sharpened("many;node;node;next 0 1;next 0 0 maybe;next 0 2 maybe;", 2, "100|000|000|000|020 000 000");
        sharpened("node;many;node;next 0 1;next 0 0 maybe;next 0 2 maybe;", 0, "010|000|000|000|121 000 000");
        sharpened("many;many;next 0 0;next 0 1;", 0, "11|00|00|00|22 00");
        // to itself; other nodes keep theirs
        sharpened("node;node;next 1 1;next 1 0 maybe;next 0 1 maybe;", 1, "00|00|00|00|01 02");
        sharpened("node;node;next 0 1 maybe;next 0 0 maybe;", 0, "00|00|00|00|11 00");
        sharpened(SIX + "next 5 5;next 5 0 maybe;", 1,
            "000000|000000|000000|000000|000000 000000 000000 000000 000000 000002");
    }

    private void noSuchThing() {
        impossible("node;node;at x 0;at x 1;");
        impossible("many;many;at z 0;at z 1;");
        impossible("node;node;next 0 0;next 0 1;");
        impossible("node;node;node;next 2 0;next 2 1;");
        impossible("node;many;next 0 0;next 0 1;");
        impossible("node;many;next 0 1;next 0 0;at y 1 maybe;");
        // two variables at one node, two nodes that lead to one: such things are
        sharpened("node;node;at x 0;at y 0;next 0 1;next 1 1;", 0, "00|20|20|00|02 02");
    }

    private void sharpens() {
        sharpened("", 0, "||||");
        sharpened("node;", 0, "0|0|0|0|0");
        Calls x = new Calls();
        for (int i = 0; i < 6; i++) {
            x.add(1);
        }
        for (int i = 0; i < 6; i++) {
            for (int v = 0; v <= 2; v++) {
                x.place(v, i, i == v ? 2 : 1);
            }
            for (int j = 0; j < 6; j++) {
                x.lead(i, j, j == 0 ? 2 : 1);
            }
        }
        // 3 manys, 5 ats of each of three variables, 5 nexts of each of six nodes
        e.due("sharpen() where most changes", 48, x.sharpen());
        e.shape("sharpen()", "000111|200000|020000|002000|200000 200000 200000 200000 200000 200000", x);
        e.due("sharpen() again", 0, x.sharpen());
    }

    private void refusedSharpens() {
        // z would take many and an at away, were it not for x
        e.refused(() -> Calls.told("many;node;node;at z 0;at z 1 maybe;next 2 0;next 2 1 maybe;at x 1;at x 2;"),
            "sharpen()", FoldedHeaps.STATE, Calls::sharpen);
        e.refused(() -> Calls.told("many;node;node;at z 0;at z 1 maybe;next 1 0;next 1 2 maybe;next 2 1;next 2 2;"),
            "sharpen()", FoldedHeaps.STATE, Calls::sharpen);
        Calls x = Calls.told("node;node;at x 0;at x 1;");
        e.due("sharpen()", FoldedHeaps.STATE, x.sharpen());
        e.due("sharpen() again", FoldedHeaps.STATE, x.sharpen());
        x.place(0, 1, 1);
        e.due("sharpen() of what can be", 1, x.sharpen());
    }

    private void ways(String text, int v, int want) {
        e.due("ways(" + v + ") of " + text, want, Calls.told(text).ways(v));
    }

    private void split(String text, int v, int k, int answer, String shape) {
        String call = "split(" + v + ", " + k + ") of " + text;
        Calls x = Calls.told(text);
        e.due(call, answer, x.split(v, k));
        e.shape(call, shape, x);
    }

    private void wayToNothing() {
        ways("", 0, 1);
        ways("node;", 2, 1);
        ways("node;at x 0 maybe;", 0, 2);
        split("node;at x 0 maybe;", 0, 0, 1, "0|0|0|0|0");
        ways("node;at x 0;", 0, 1);
        split("node;at x 0;", 0, 0, 1, "0|2|0|0|0");
        // the yes of another variable doesn't count
        ways("node;at x 0 maybe;at y 0;", 0, 2);
        split("node;at x 0 maybe;at y 0;", 0, 0, 1, "0|0|2|0|0");
    }

    private void waysAlone() {
        String maybes = "node;node;node;at x 0 maybe;at x 2 maybe;";
        ways(maybes, 0, 3);
        split(maybes, 0, 1, 3, "000|200|000|000|000 000 000");
        split(maybes, 0, 2, 3, "000|002|000|000|000 000 000");
        String yeses = "node;many;many;many;at y 0 maybe;at y 1;at y 2 maybe;at y 3;";
        ways(yeses, 1, 2);
        split(yeses, 1, 0, 4, "0011|0000|0200|0000|0000 0000 0000 0000");
        split(yeses, 1, 1, 4, "0110|0000|0002|0000|0000 0000 0000 0000");
    }

    private void waysBeside() {
        ways("many;at x 0 maybe;", 0, 3);
        ways("node;at x 0 maybe;", 0, 2);
        ways("many;at x 0;", 0, 1);
        String text = "many;many;node;at z 0 maybe;at z 1 maybe;at z 2 maybe;";
        ways(text, 2, 6);
        String none = "0000 0000 0000 0000";
        split(text, 2, 0, 3, "110|000|000|000|000 000 000");
        split(text, 2, 1, 3, "010|000|000|200|000 000 000");
        split(text, 2, 2, 4, "0101|0000|0000|2000|" + none);
        split(text, 2, 3, 3, "100|000|000|020|000 000 000");
        split(text, 2, 4, 4, "1001|0000|0000|0200|" + none);
        split(text, 2, 5, 3, "110|000|000|002|000 000 000");
    }

    private void numberOfWays() {
        ways("", 2, 1);
        for (int many = 0; many <= 1; many++) {
            for (int truth = 0; truth <= 2; truth++) {
                Calls x = new Calls();
                for (int i = 0; i < 6; i++) {
                    x.add(many);
                    x.place(1, i, truth);
                }
                int want = truth == 0 ? 1 : truth == 2 ? 6 : many == 1 ? 13 : 7;
                e.due("ways(1) of six", want, x.ways(1));
                e.due("ways(0) of six", 1, x.ways(0));
                e.due("split to the last way", truth == 1 && many == 1 ? FoldedHeaps.FULL : 6, x.split(1, want - 1));
            }
        }
    }

    private void badWays() {
        for (int v : Edges.outside(0, 2)) {
            e.refused("ways(" + v + ")", FoldedHeaps.BAD, x -> x.ways(v));
        }
    }

    private void splitToNothing() {
        split("many;many;at x 0 maybe;at x 1 maybe;at y 0 maybe;next 0 1 maybe;", 0, 0, 2, "11|00|10|00|01 00");
        split("node;at x 0;", 2, 0, 1, "0|2|0|0|0");
        split("", 0, 0, 0, "||||");
    }

    private void splitToOne() {
        String text = "many;many;at x 0 maybe;at x 1 maybe;at y 1 maybe;next 0 1;";
        split(text, 0, 1, 2, "01|20|01|00|02 00");
        split(text, 0, 3, 2, "10|02|01|00|02 00");
        split("many;many;at x 0;at x 1;", 0, 1, 2, "10|02|00|00|00 00");
        split("many;many;at x 0;at x 1 maybe;", 0, 0, 2, "01|20|00|00|00 00");
    }

    private void splitBesideOthers() {
        split("node;many;node;at x 1 maybe;at x 2 maybe;at y 1 maybe;at z 1;", 0, 2, 4,
            "0001|0200|0101|0202|0000 0000 0000 0000");
        split("node;many;node;at x 1 maybe;at y 1 maybe;at y 0 maybe;at z 1;", 1, 3, 4,
            "0001|0101|0200|0202|0000 0000 0000 0000");
        split("many;at x 0 maybe;at y 0;at z 0 maybe;", 2, 2, 2, "01|11|22|20|00 00");
        split("node;node;node;node;many;at x 4 maybe;", 0, 2, 6, "000001|000020|000000|000000|" + NO_NEXTS);
    }

    private void nextsOfASplit() {
        split("node;many;at x 1 maybe;next 0 0;next 0 1;next 1 0 maybe;next 1 1 maybe;", 0, 2, 3,
            "001|020|000|000|222 111 111");
        split("node;many;node;at y 1 maybe;next 0 1;next 1 2;next 2 1 maybe;", 1, 2, 4,
            "0001|0000|0200|0000|0202 0020 0101 0020");
        split("many;at z 0 maybe;next 0 0;", 2, 2, 2, "01|00|00|20|22 22");
        split("many;at z 0 maybe;", 2, 2, 2, "01|00|00|20|00 00");
        split("node;node;node;node;many;at x 4 maybe;next 0 4;next 4 3 maybe;next 4 4;next 3 0;", 0, 2, 6,
            "000001|000020|000000|000000|000022 000000 000000 200000 000122 000122");
    }

    private void splits() {
        String text = "node;many;at x 0 maybe;at x 1 maybe;";
        split(text, 0, 0, 2, "01|00|00|00|00 00");
        split(text, 0, 1, 2, "01|20|00|00|00 00");
        split(text, 0, 2, 2, "00|02|00|00|00 00");
        split(text, 0, 3, 3, "001|020|000|000|000 000 000");
        Calls x = Calls.told(text);
        e.due("split(0, 3)", 3, x.split(0, 3));
        e.due("ways(0) behind it", 1, x.ways(0));
        e.due("split(0, 0) behind it", 3, x.split(0, 0));
        e.shape("both", "001|020|000|000|000 000 000", x);
    }

    private void badSplits() {
        for (int v : Edges.outside(0, 2)) {
            e.refused("split(" + v + ", 0)", FoldedHeaps.BAD, x -> x.split(v, 0));
        }
        for (int k : Edges.outside(0, 3)) {
            e.refused("split(0, " + k + ") of four ways", FoldedHeaps.BAD, x -> x.split(0, k));
        }
        e.refused("split(1, 1) of one way", FoldedHeaps.BAD, x -> x.split(1, 1));
        e.due("split(0, 1) of no nodes", FoldedHeaps.BAD, new Calls().split(0, 1));
        e.refused(Edges::sixNodes, "split(0, 3) of three ways, with 6 nodes", FoldedHeaps.BAD, x -> x.split(0, 3));
    }

    private void fullSplits() {
        e.refused(Edges::sixNodes, "split(0, 2) with 6 nodes", FoldedHeaps.FULL, x -> x.split(0, 2));
        e.refused(Edges::sixNodes, "split(1, 2) with 6 nodes", FoldedHeaps.FULL, x -> x.split(1, 2));
        Calls x = Edges.sixNodes();
        e.due("split(0, 1), alone, with 6 nodes", 6, x.split(0, 1));
        e.due("split(1, 0), to nothing, with 6 nodes", 6, x.split(1, 0));
        Calls five = Edges.sixNodes();
        five.lose(2);
        e.due("split(0, 2) with 5 nodes", 6, five.split(0, 2));
        e.due("split(1, 2) with 6 nodes", FoldedHeaps.FULL, five.split(1, 2));
    }
}
