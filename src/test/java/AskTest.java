/** Promises 6 to 11: what there is, and what formulas are worth. */
final class AskTest {
    private static final Check CHECK = new Check("AskTest");

    public static void main(String[] args) {
        rules();
        heaps();
        nodes();
        pairs();
        helds();
        formulas();
        worths();
        worthsOfNoNodes();
        CHECK.close();
    }

    private static void rules() {
        FoldedHeaps x = Check.told("node;many;many;at x 0;at x 1 maybe;at z 2;at y 2 maybe;at y 1 maybe;"
            + "next 0 1;next 1 2 maybe;next 2 2;next 2 0;ask some a:many a;");
        int[] want = {3, 1, 2, 3, 1, 2, 3, 0};
        for (int what = 0; what < want.length; what++) {
            CHECK.due("rule(" + what + ")", want[what], x.rule(what));
        }
        CHECK.due("rule(-1)", FoldedHeaps.BAD, x.rule(-1));
        CHECK.due("rule(8)", FoldedHeaps.BAD, x.rule(8));
    }

    private static void heaps() {
        heap("", 1);
        heap("node;node;at x 0;at y 0;next 0 1;next 1 1;", 1);
        heap("many;", 0);
        heap("node;at x 0 maybe;", 0);
        heap("node;next 0 0 maybe;", 0);
        heap("node;node;at x 0;at x 1;", 0);
        heap("node;node;next 0 0;next 0 1;", 0);
        heap("node;node;next 0 0;next 1 0;at x 0;at y 1;at z 0;", 1);
    }

    private static void heap(String text, int want) {
        CHECK.due("rule(7) of " + text, want, Check.told(text).rule(7));
    }

    private static void nodes() {
        FoldedHeaps x = Check.told("node;many;node;at x 0;at y 1;at z 0 maybe;next 0 1;next 1 2 maybe;");
        int[][] want = {{0, 2, 0, 1, 2, 0, 1}, {1, 0, 2, 0, 2, 1, 1}, {0, 0, 0, 0, 1, 1, 1}};
        for (int i = 0; i < 3; i++) {
            for (int what = 0; what < 7; what++) {
                CHECK.due("node(" + i + ", " + what + ")", want[i][what], x.node(i, what));
            }
        }
        CHECK.due("node(3, 0)", FoldedHeaps.BAD, x.node(3, 0));
        CHECK.due("node(-1, 0)", FoldedHeaps.BAD, x.node(-1, 0));
        CHECK.due("node(0, 7)", FoldedHeaps.BAD, x.node(0, 7));
        CHECK.due("node(0, -1)", FoldedHeaps.BAD, x.node(0, -1));
        // a way back to a node that is many makes it reached for sure
        FoldedHeaps ring = Check.told("many;node;at x 0;next 0 1;next 1 0;");
        CHECK.due("node(0, 4) on a ring", 2, ring.node(0, 4));
    }

    private static void pairs() {
        FoldedHeaps x = Check.told("node;many;node;node;next 0 1;next 1 2;next 2 0 maybe;next 3 3;next 0 3 maybe;");
        int[][] way = {{1, 2, 2, 1}, {1, 1, 2, 1}, {1, 1, 1, 1}, {0, 0, 0, 2}};
        int[][] next = {{0, 2, 0, 1}, {0, 0, 2, 0}, {1, 0, 0, 0}, {0, 0, 0, 2}};
        for (int i = 0; i < 4; i++) {
            for (int j = 0; j < 4; j++) {
                String at = "pair(" + i + ", " + j;
                CHECK.due(at + ", 0)", next[i][j], x.pair(i, j, 0));
                CHECK.due(at + ", 1)", way[i][j], x.pair(i, j, 1));
                CHECK.due(at + ", 2)", i != j ? 0 : i == 1 ? 1 : 2, x.pair(i, j, 2));
            }
        }
        CHECK.due("pair(0, 0, 3)", FoldedHeaps.BAD, x.pair(0, 0, 3));
        CHECK.due("pair(0, 0, -1)", FoldedHeaps.BAD, x.pair(0, 0, -1));
        CHECK.due("pair(4, 0, 0)", FoldedHeaps.BAD, x.pair(4, 0, 0));
        CHECK.due("pair(0, 4, 1)", FoldedHeaps.BAD, x.pair(0, 4, 1));
        CHECK.due("pair(-1, 0, 2)", FoldedHeaps.BAD, x.pair(-1, 0, 2));
    }

    private static void helds() {
        FoldedHeaps x = Check.told("node;many;at x 0 maybe;at x 1;at y 1 maybe;");
        CHECK.due("held(0)", 2, x.held(0));
        CHECK.due("held(1)", 1, x.held(1));
        CHECK.due("held(2)", 0, x.held(2));
        CHECK.due("held(3)", FoldedHeaps.BAD, x.held(3));
        CHECK.due("held(-1)", FoldedHeaps.BAD, x.held(-1));
    }

    private static void formulas() {
        FoldedHeaps x = Check.told("ask some c all a all b:same a b at x c reach y a and or not;"
            + "ask all b:many b;ask all c some a:next a c many a many c many a or or or;");
        int[][] want = {{3, 6, 6, 3}, {1, 1, 1, 1}, {2, 1, 7, 4}};
        for (int k = 0; k < want.length; k++) {
            for (int what = 0; what < 4; what++) {
                CHECK.due("formula(" + k + ", " + what + ")", want[k][what], x.formula(k, what));
            }
        }
        CHECK.due("formula(3, 0)", FoldedHeaps.BAD, x.formula(3, 0));
        CHECK.due("formula(-1, 0)", FoldedHeaps.BAD, x.formula(-1, 0));
        CHECK.due("formula(0, 4)", FoldedHeaps.BAD, x.formula(0, 4));
        CHECK.due("formula(0, -1)", FoldedHeaps.BAD, x.formula(0, -1));
        CHECK.due("ask(3)", FoldedHeaps.BAD, x.ask(3));
        CHECK.due("ask(-1)", FoldedHeaps.BAD, x.ask(-1));
        CHECK.due("count(3)", 14, x.count(3));
        FoldedHeaps full = Check.told("ask all a:many a not not not not not not not not not not not;");
        CHECK.due("formula(0, 2) of 12 items", 12, full.formula(0, 2));
    }

    private static void worths() {
        String shape = "node;node;many;at x 0;at y 2 maybe;next 0 1;next 1 2 maybe;next 2 2 maybe;";
        worth(shape, "some a:at x a", 2);
        worth(shape, "all a:at x a", 0);
        worth(shape, "some a:at y a", 1);
        worth(shape, "all a:at y a not", 1);
        worth(shape, "some a:at z a", 0);
        worth(shape, "all a:reach x a", 1);
        worth(shape, "all a:many a not", 0);
        worth(shape, "some a:many a", 2);
        worth(shape, "all a:same a a", 1);
        worth(shape, "all a some b:same a b", 1);
        worth(shape, "some a some b:next a b", 2);
        worth(shape, "all a some b:next a b", 1);
        worth(shape, "some b all a:next a b", 0);
        worth(shape, "all a all b all c:next a b next a c and not same b c or", 1);
        worth(shape, "some a:at x a at y a and", 0);
        worth(shape, "some a:at x a at y a or", 2);
        worth(shape, "some a:reach x a at y a and", 1);
        worth(shape, "all a all b:next a b next b a and not", 1);
        worth("node;", "some a:many a", 0);
        worth("node;many;", "all a:many a", 0);
        worth("many;many;", "all a:many a", 2);
        worth(shape, "all b some a some c:next a b next b c or", 1);
        // the first letter is outermost
        String cross = "node;node;next 0 1;next 1 0;";
        worth(cross, "all a some b:next a b", 2);
        worth(cross, "some b all a:next a b", 0);
        worth(cross, "all b some a:next a b", 2);
        worth(cross, "some a all b:next a b", 0);
    }

    private static void worthsOfNoNodes() {
        worth("", "all a:many a", 2);
        worth("", "some a:many a not", 0);
        worth("", "all a some b:same a b", 2);
        worth("", "some a all b:same a b", 0);
    }

    private static void worth(String shape, String formula, int want) {
        CHECK.due("ask " + formula + " in " + shape, want, Check.told(shape + "ask " + formula + ";").ask(0));
    }
}
