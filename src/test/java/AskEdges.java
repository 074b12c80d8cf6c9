/** Promises 6 to 11: what there is, what is reached, what formulas are worth. */
final class AskEdges {
    private static final String SIX = "node;node;node;node;node;node;";

    private final Edges e;

    AskEdges(Edges edges) {
        e = edges;
    }

    void all() {
        e.sentence(10, "TRUTHS: 0 no, 1 maybe, 2 yes.", this::truths);
        e.sentence(10, "NOT is 2 less it;", this::not);
        e.sentence(10, "AND the least, OR the greatest of some (of none: AND yes, OR no).", this::andOr);
        e.sentence(6, "A SHAPE: NODES 0 on (6 at most), each MANY (it may stand for more than one) or not;", this::sixNodes);
        e.sentence(9, "VARIABLES 0 to 2 (x, y, z);", this::variables);
        e.sentence(8, "AT of a VARIABLE and a NODE, NEXT of a NODE and a NODE (which may be the same) are TRUTHS.",
            this::tables);
        e.sentence(8, "SAME of two NODES: no; of a NODE and itself: maybe, if it is MANY, else yes.", this::same);
        e.sentence(8, "WAY of i and j: OR over all rows of NODES from i to j with one step at least of AND of the NEXTS along it.",
            this::way);
        e.sentence(7, "REACH of a VARIABLE and a NODE j: OR over all NODES i of AND of AT of it and i, "
            + "and OR of SAME and WAY of i and j.", this::reach);
        e.sentence(9, "HELD of a VARIABLE: OR of all its ATS.", this::heldByAll);
        e.sentence(11, "FORMULAS 0 on (4 at most):", this::fourFormulas);
        e.sentence(11, "LETTERS a, b, c (each at most once) with all or some each,", this::threeLetters);
        e.sentence(11, "then ITEMS (12 at most), done by order on a heap:", this::twelveItems);
        e.sentence(10, "at V L, reach V L, next L L, same L L, many L lay a TRUTH on it "
            + "(of the NODES the LETTERS stand for; many: yes, or no);", this::itemsThatLay);
        e.sentence(10, "not turns the topmost about; and, or take two and lay one.", this::itemsThatTake);
        e.sentence(10, "The FORMULA is worth the one that is left, with AND over all NODES for each LETTER with all, "
            + "OR for each with some, the first LETTER outermost.", this::allAndSome);
        rules();
        askedOfNodes();
        askedOfFormulas();
    }

    private void rules() {
        e.sentence(6, "How many: 0 NODES, 1 FORMULAS, 2 NODES that are MANY, 3 maybes in AT, 4 maybes in NEXT, "
            + "5 yeses in AT, 6 yeses in NEXT;", this::howMany);
        e.sentence(6, "7 whether it is a HEAP (no MANY, no maybe, each VARIABLE at one NODE at most, "
            + "each NODE with one NEXT at most; 1, 0).", this::heap);
        e.sentence(6, "BAD.", this::badRules);
    }

    private void askedOfNodes() {
        e.sentence(7, "Of a NODE: 0 whether it is MANY (1, 0), 1 to 3 AT of VARIABLE 0 to 2, 4 to 6 REACH of these.",
            this::nodeAsked);
        e.sentence(7, "BAD.", this::badNodes);
        e.sentence(8, "Of two NODES: 0 NEXT, 1 WAY, 2 SAME.", this::pairAsked);
        e.sentence(8, "BAD.", this::badPairs);
        e.sentence(9, "HELD of a VARIABLE.", this::heldAsked);
        e.sentence(9, "BAD.", this::badHelds);
    }

    private void askedOfFormulas() {
        e.sentence(10, "What a FORMULA is worth.", this::asked);
        e.sentence(10, "BAD.", this::badAsks);
        e.sentence(11, "Of a FORMULA: 0 LETTERS, 1 which of them have all (bits, the first LETTER 1), 2 ITEMS, "
            + "3 the most TRUTHS on its heap.", this::formulaAsked);
        e.sentence(11, "BAD.", this::badFormulas);
    }

    private void worth(String shape, String formula, int want) {
        e.due("ask " + formula + " in " + shape, want, Calls.told(shape + "ask " + formula + ";").ask(0));
    }

    private static String at(String variable, int truth) {
        return truth == 0 ? "" : "at " + variable + " 0" + (truth == 1 ? " maybe;" : ";");
    }

    private void truths() {
        for (int truth = 0; truth <= 2; truth++) {
            worth("node;" + at("x", truth), "some a:at x a", truth);
            worth("node;" + at("x", truth), "all a:at x a", truth);
        }
    }

    private void not() {
        for (int truth = 0; truth <= 2; truth++) {
            worth("node;" + at("x", truth), "some a:at x a not", 2 - truth);
            worth("node;" + at("x", truth), "some a:at x a not not", truth);
        }
    }

    private void andOr() {
        for (int one = 0; one <= 2; one++) {
            for (int other = 0; other <= 2; other++) {
                String shape = "node;" + at("x", one) + at("y", other);
                worth(shape, "some a:at x a at y a and", Math.min(one, other));
                worth(shape, "some a:at x a at y a or", Math.max(one, other));
            }
        }
        worth("", "all a:many a", 2);
        worth("", "all a:many a not", 2);
        worth("", "some a:many a", 0);
        worth("", "some a:many a not", 0);
        Calls x = Calls.told("node;ask all a:many a;ask some a:many a not;");
        e.due("ask(0) with one node", 0, x.ask(0));
        e.due("ask(1) with one node", 2, x.ask(1));
        x.lose(0);
        e.due("ask(0) with no node left", 2, x.ask(0));
        e.due("ask(1) with no node left", 0, x.ask(1));
    }

    /** Each way in which a node comes ends at the sixth. */
    private void sixNodes() {
        Calls x = new Calls();
        e.due("rule(0) of none", 0, x.rule(0));
        for (int i = 1; i <= 6; i++) {
            e.due("add(1)", i, x.add(1));
        }
        e.due("node(5, 0), the last", 1, x.node(5, 0));
        e.due("node(6, 0)", FoldedHeaps.BAD, x.node(6, 0));
        e.due("add(1), the 7th", FoldedHeaps.FULL, x.add(1));
        e.due("deed(5, 0, 0), the 7th", FoldedHeaps.FULL, x.deed(5, 0, 0));
        x.place(0, 0, 1);
        e.due("split(0, 2), the 7th", FoldedHeaps.FULL, x.split(0, 2));
        e.due("text() of seven", -40, x.tell(SIX + "node;"));
        e.due("rule(0)", 6, x.rule(0));
        e.due("rule(2)", 6, x.rule(2));
    }

    private void variables() {
        Calls x = Calls.told("node;node;node;at x 0;at y 1;at z 2;");
        for (int v = 0; v <= 2; v++) {
            e.due("held(" + v + ")", 2, x.held(v));
            e.due("node(" + v + ", " + (v + 1) + ")", 2, x.node(v, v + 1));
            e.due("place(" + v + ", " + v + ", 0)", 2, x.place(v, v, 0));
            e.due("held(" + v + ")", 0, x.held(v));
        }
        e.due("held(-1)", FoldedHeaps.BAD, x.held(-1));
        e.due("held(3)", FoldedHeaps.BAD, x.held(3));
    }

    private void tables() {
        Calls x = Calls.told("node;");
        for (int truth = 2; truth >= 0; truth--) {
            x.place(1, 0, truth);
            x.lead(0, 0, truth);
            e.due("node(0, 2)", truth, x.node(0, 2));
            e.due("pair(0, 0, 0), of a node and itself", truth, x.pair(0, 0, 0));
        }
    }

    private void same() {
        Calls x = Calls.told("node;many;node;next 0 2;next 1 1;");
        int[][] want = {{2, 0, 0}, {0, 1, 0}, {0, 0, 2}};
        for (int i = 0; i < 3; i++) {
            for (int j = 0; j < 3; j++) {
                e.due("pair(" + i + ", " + j + ", 2)", want[i][j], x.pair(i, j, 2));
            }
        }
        x.many(1, 0);
        e.due("pair(1, 1, 2) where it is not many any more", 2, x.pair(1, 1, 2));
    }

    private void way() {
        Calls chain = Calls.told(SIX + "next 5 4;next 4 3;next 3 2;next 2 1;next 1 0;");
        e.due("pair(5, 0, 1), five steps", 2, chain.pair(5, 0, 1));
        e.due("pair(5, 4, 1), one step", 2, chain.pair(5, 4, 1));
        e.due("pair(0, 5, 1), against the chain", 0, chain.pair(0, 5, 1));
        e.due("pair(2, 2, 1), no step is no way", 0, chain.pair(2, 2, 1));
        chain.lead(0, 5, 2);
        e.due("pair(2, 2, 1), six steps around", 2, chain.pair(2, 2, 1));
        chain.lead(3, 2, 1);
        e.due("pair(2, 2, 1), a maybe on the way around", 1, chain.pair(2, 2, 1));
        e.due("pair(2, 3, 1), not by that", 2, chain.pair(2, 3, 1));
        chain.lead(3, 2, 0);
        e.due("pair(2, 2, 1), the ring is cut", 0, chain.pair(2, 2, 1));
        Calls two = Calls.told("node;node;node;next 0 2 maybe;next 0 1;next 1 2;next 2 2 maybe;");
        e.due("pair(0, 2, 1), the greatest of two rows", 2, two.pair(0, 2, 1));
        e.due("pair(2, 2, 1), a step to itself", 1, two.pair(2, 2, 1));
        two.lead(1, 2, 0);
        e.due("pair(0, 2, 1), the other row alone", 1, two.pair(0, 2, 1));
    }

    private void reach() {
        Calls x = Calls.told("node;many;node;many;at x 0;at y 1;at z 1 maybe;next 0 1;next 1 2 maybe;next 3 0;");
        int[][] want = {{2, 0, 0}, {2, 1, 1}, {1, 1, 1}, {0, 0, 0}};
        for (int i = 0; i < want.length; i++) {
            for (int v = 0; v <= 2; v++) {
                e.due("node(" + i + ", " + (v + 4) + ")", want[i][v], x.node(i, v + 4));
            }
        }
        x.lead(1, 1, 2);
        e.due("node(1, 5): a step to itself makes up for many", 2, x.node(1, 5));
        e.due("node(1, 6): at is maybe", 1, x.node(1, 6));
        x.place(0, 3, 2);
        e.due("node(3, 4): at a second one that is many", 1, x.node(3, 4));
        x.place(0, 0, 0);
        e.due("node(0, 4): from the second one alone", 2, x.node(0, 4));
        x.place(0, 3, 0);
        e.due("node(0, 4): at none", 0, x.node(0, 4));
    }

    private void heldByAll() {
        Calls x = Calls.told("node;node;");
        int[][] ats = {{0, 0, 0}, {0, 1, 1}, {1, 0, 1}, {1, 1, 1}, {1, 2, 2}, {2, 0, 2}, {2, 2, 2}};
        for (int[] at : ats) {
            x.place(1, 0, at[0]);
            x.place(1, 1, at[1]);
            e.due("held(1) of " + at[0] + " and " + at[1], at[2], x.held(1));
        }
        e.due("held(0) with no nodes", 0, new Calls().held(0));
    }

    private void fourFormulas() {
        Calls x = Calls.told("ask some a:many a;ask all a:many a;ask some b:many b;ask all c:many c;");
        e.due("rule(1)", 4, x.rule(1));
        int[] worth = {0, 2, 0, 2};
        for (int k = 0; k < worth.length; k++) {
            e.due("ask(" + k + ")", worth[k], x.ask(k));
        }
        e.due("ask(4)", FoldedHeaps.BAD, x.ask(4));
        e.due("text() of five", -10 - 72, x.tell("ask some a:many a;".repeat(5)));
        e.due("rule(1)", 4, x.rule(1));
    }

    private void threeLetters() {
        e.due("letters of one", 1, Calls.told("ask some c:many c;").formula(0, 0));
        e.due("letters of three", 3, Calls.told("ask some c all a some b:many c;").formula(0, 0));
        e.due("text() with one twice", -10 - 28, new Calls().tell("ask some c all a some b all b:many c;"));
        e.due("text() with none", -10 - 9, new Calls().tell("ask:many a;"));
    }

    private void twelveItems() {
        String twelve = "ask some a:many a" + " not".repeat(11);
        Calls x = Calls.told("node;" + twelve + ";");
        e.due("formula(0, 2)", 12, x.formula(0, 2));
        e.due("ask(0), eleven times turned about", 2, x.ask(0));
        e.due("text() with a 13th", -10 - twelve.length() - 1, new Calls().tell(twelve + " not;"));
        // by order: the same items, or and and in another order, are worth another truth
        String shape = "node;at x 0;";
        worth(shape, "some a:at x a at y a at z a and or", 2);
        worth(shape, "some a:at x a at y a at z a or and", 0);
        worth(shape, "some a:at x a at y a or at z a and", 0);
    }

    /** The letters stand for node 0 and node 1, which x and y are at. */
    private void itemsThatLay() {
        String shape = "node;many;node;at x 0;at y 1 maybe;next 0 1;next 1 2 maybe;";
        worth(shape, "some a:at x a", 2);
        worth(shape, "some a:at y a", 1);
        worth(shape, "some a:at z a", 0);
        worth(shape, "some a:at x a not reach x a and", 2);
        worth(shape, "some a:at y a not at x a not and reach x a and", 1);
        worth(shape, "some a some b:at x a next a b and", 2);
        worth(shape, "some a some b:at x a next b a and", 0);
        worth(shape, "some a some b:at y a same a b and", 1);
        worth(shape, "some a some b:at x a same a b and at y b and", 0);
        worth(shape, "some a:at x a same a a and", 2);
        worth(shape, "all a:same a a", 1);
        worth(shape, "some a:at x a many a and", 0);
        worth(shape, "some a:many a", 2);
        worth("many;many;", "all a:many a", 2);
        worth("many;", "some a:many a not", 0);
        worth(shape, "some c some b:at x b at y c and next b c and", 1);
        worth(shape, "some c some b:at x b at y c and next c b and", 0);
        // of the letter that is named, whichever place it has
        worth(shape, "some a some b:at x a at x b not and many b and", 2);
        worth(shape, "some a some b:at x a many b not and same a b not and", 2);
        for (int truth = 0; truth <= 2; truth++) {
            String led = "node;node;at z 0;at y 1;" + (truth == 0 ? "" : truth == 1 ? "next 0 1 maybe;" : "next 0 1;");
            worth(led, "some c some b:at z c at y b and reach z b and", truth);
            worth(led, "some c some b:at z c at y b and reach y c and", 0);
            worth(led, "some c some b:at z c at y b and reach y b and", 2);
            worth(led, "some c some b:at z c at y b and reach x b and", 0);
        }
    }

    private void itemsThatTake() {
        // x is at it, y maybe, z not
        String shape = "node;at x 0;at y 0 maybe;";
        worth(shape, "some a:at z a at x a not or", 0);
        worth(shape, "some a:at x a at z a not and", 2);
        worth(shape, "some a:at x a at y a and", 1);
        worth(shape, "some a:at y a at x a and", 1);
        worth(shape, "some a:at z a at y a or", 1);
        worth(shape, "some a:at x a at z a at y a or and", 1);
        worth(shape, "some a:at x a at z a at y a or or", 2);
        worth(shape, "some a:at z a at x a at y a and and", 0);
    }

    private void allAndSome() {
        String cross = "node;node;next 0 1;next 1 0;";
        worth(cross, "all a some b:next a b", 2);
        worth(cross, "some a all b:next a b", 0);
        worth(cross, "some b all a:next a b", 0);
        worth(cross, "all b some a:next a b", 2);
        String last = "node;node;at x 1 maybe;at y 0;at y 1;";
        worth(last, "some a:at x a", 1);
        worth(last, "all a:at x a", 0);
        worth(last, "all a:at y a", 2);
        worth(last, "all a:at x a at y a or", 2);
        worth(SIX + "at x 5;", "some a:at x a", 2);
        worth(SIX + "at x 5;", "all a:at x a not", 0);
        worth("node;node;next 0 1;next 1 1;", "some b all a:next a b", 2);
        String steps = "node;node;node;next 0 1;next 1 2;next 2 2;at x 0;";
        worth(steps, "all a some b some c:next a b next b c and", 2);
        worth(steps, "some c all a some b:next a b next b c and", 2);
        worth(steps, "some b all a some c:next a b next b c and", 0);
        worth(steps, "all a all b all c:next a b next a c and not same b c or", 2);
    }

    private static Calls allAre(int many, int truth) {
        Calls x = new Calls();
        for (int i = 0; i < 6; i++) {
            x.add(many);
        }
        for (int i = 0; i < 6; i++) {
            for (int v = 0; v <= 2; v++) {
                x.place(v, i, truth);
            }
            for (int j = 0; j < 6; j++) {
                x.lead(i, j, truth);
            }
        }
        return x;
    }

    private void howMany() {
        countsAre(new Calls(), 0, 0, 0, 0, 0, 0, 0);
        countsAre(allAre(1, 0), 6, 0, 6, 0, 0, 0, 0);
        countsAre(allAre(1, 1), 6, 0, 6, 18, 36, 0, 0);
        countsAre(allAre(0, 2), 6, 0, 0, 0, 0, 18, 36);
        countsAre(Calls.told("many;node;at x 0;at x 1 maybe;at z 1 maybe;next 1 1;next 1 0;next 0 1 maybe;ask all a:many a;"),
            2, 1, 1, 2, 1, 1, 2);
    }

    private void countsAre(Calls x, int... want) {
        for (int what = 0; what < want.length; what++) {
            e.due("rule(" + what + ")", want[what], x.rule(what));
        }
    }

    private void heap() {
        e.due("rule(7) of none", 1, new Calls().rule(7));
        isHeap("node;node;", 1);
        isHeap("node;node;at x 0;at y 0;at z 0;next 0 1;next 1 1;", 1);
        isHeap("node;many;", 0);
        isHeap("node;node;at z 1 maybe;", 0);
        isHeap("node;node;next 1 1 maybe;", 0);
        isHeap("node;node;at x 0;at x 1;", 0);
        isHeap("node;node;at z 0;at z 1;", 0);
        isHeap("node;node;next 0 0;next 0 1;", 0);
        isHeap("node;node;next 1 0;next 1 1;", 0);
        isHeap("node;node;next 0 1;next 1 1;", 1);
        isHeap(SIX + "at z 5;next 5 0;next 0 0;", 1);
        isHeap(SIX + "next 5 0;next 5 5;", 0);
    }

    private void isHeap(String text, int want) {
        e.due("rule(7) of " + text, want, Calls.told(text).rule(7));
    }

    private void badRules() {
        for (int what : Edges.outside(0, 7)) {
            e.refused("rule(" + what + ")", FoldedHeaps.BAD, x -> x.rule(what));
        }
    }

    private void nodeAsked() {
        Calls x = Calls.told("many;node;at x 0;at y 0 maybe;at z 1;next 1 0 maybe;next 0 1;");
        int[][] want = {{1, 2, 1, 0, 1, 1, 1}, {0, 0, 0, 2, 2, 1, 2}};
        for (int i = 0; i < want.length; i++) {
            for (int what = 0; what <= 6; what++) {
                e.due("node(" + i + ", " + what + ")", want[i][what], x.node(i, what));
            }
        }
    }

    private void badNodes() {
        for (int i : Edges.outside(0, 2)) {
            e.refused("node(" + i + ", 0)", FoldedHeaps.BAD, x -> x.node(i, 0));
            e.refused("node(" + i + ", 4)", FoldedHeaps.BAD, x -> x.node(i, 4));
        }
        for (int what : Edges.outside(0, 6)) {
            e.refused("node(0, " + what + ")", FoldedHeaps.BAD, x -> x.node(0, what));
        }
        Calls x = Calls.told("node;node;");
        x.lose(0);
        e.due("node(1, 0), which is gone", FoldedHeaps.BAD, x.node(1, 0));
        x.lose(0);
        e.due("node(0, 0) of none", FoldedHeaps.BAD, x.node(0, 0));
    }

    private void pairAsked() {
        Calls x = Calls.told("many;node;next 0 1;next 1 0 maybe;");
        int[][] want = {{0, 1, 1}, {2, 2, 0}, {1, 1, 0}, {0, 1, 2}};
        for (int p = 0; p < 4; p++) {
            for (int what = 0; what <= 2; what++) {
                e.due("pair(" + p / 2 + ", " + p % 2 + ", " + what + ")", want[p][what], x.pair(p / 2, p % 2, what));
            }
        }
    }

    private void badPairs() {
        for (int i : Edges.outside(0, 2)) {
            e.refused("pair(" + i + ", 0, 0)", FoldedHeaps.BAD, x -> x.pair(i, 0, 0));
            e.refused("pair(0, " + i + ", 1)", FoldedHeaps.BAD, x -> x.pair(0, i, 1));
            e.refused("pair(" + i + ", " + i + ", 2)", FoldedHeaps.BAD, x -> x.pair(i, i, 2));
        }
        for (int what : Edges.outside(0, 2)) {
            e.refused("pair(0, 0, " + what + ")", FoldedHeaps.BAD, x -> x.pair(0, 0, what));
        }
        e.due("pair(0, 0, 0) of none", FoldedHeaps.BAD, new Calls().pair(0, 0, 0));
    }

    private void heldAsked() {
        Calls x = Calls.told("node;node;at x 1;at y 0 maybe;");
        e.due("held(0)", 2, x.held(0));
        e.due("held(1)", 1, x.held(1));
        e.due("held(2)", 0, x.held(2));
        x.lose(1);
        e.due("held(0), its node is gone", 0, x.held(0));
    }

    private void badHelds() {
        for (int v : Edges.outside(0, 2)) {
            e.refused("held(" + v + ")", FoldedHeaps.BAD, x -> x.held(v));
        }
    }

    private void asked() {
        Calls x = Calls.told("node;many;at x 0;ask some a:at x a many a and;ask all b:reach x b;");
        e.due("ask(0)", 0, x.ask(0));
        e.due("ask(1)", 0, x.ask(1));
        x.many(0, 1);
        x.lead(0, 1, 1);
        e.due("ask(0), of the shape as it is then", 2, x.ask(0));
        e.due("ask(1), of the shape as it is then", 1, x.ask(1));
        x.lead(0, 1, 2);
        x.lead(0, 0, 2);
        e.due("ask(1), once more", 2, x.ask(1));
    }

    private void badAsks() {
        for (int k : Edges.outside(0, 1)) {
            e.refused("ask(" + k + ")", FoldedHeaps.BAD, x -> x.ask(k));
        }
        e.due("ask(0) of none", FoldedHeaps.BAD, Calls.told("node;").ask(0));
        Calls x = Calls.told("node;ask all a:many a;");
        x.text();
        e.due("ask(0) behind an empty text", FoldedHeaps.BAD, x.ask(0));
    }

    private void formulaAsked() {
        formulaIs("some a:many a", 1, 0, 1, 1);
        formulaIs("all a:many a", 1, 1, 1, 1);
        formulaIs("some c all a:many a", 2, 2, 1, 1);
        formulaIs("all c some a:many a", 2, 1, 1, 1);
        formulaIs("some c some a all b:many a", 3, 4, 1, 1);
        formulaIs("all c all b all a:many a not", 3, 7, 2, 1);
        formulaIs("some a some b some c:same a b next b c or", 3, 0, 3, 2);
        formulaIs("all a:many a many a or many a or", 1, 1, 5, 2);
        formulaIs("all a:many a many a many a or or", 1, 1, 5, 3);
        formulaIs("all a:" + "many a ".repeat(6) + "or or or or or not", 1, 1, 12, 6);
    }

    private void formulaIs(String formula, int... want) {
        Calls x = Calls.told("ask " + formula + ";");
        for (int what = 0; what < want.length; what++) {
            e.due("formula(0, " + what + ") of " + formula, want[what], x.formula(0, what));
        }
    }

    private void badFormulas() {
        for (int k : Edges.outside(0, 1)) {
            e.refused("formula(" + k + ", 0)", FoldedHeaps.BAD, x -> x.formula(k, 0));
        }
        for (int what : Edges.outside(0, 3)) {
            e.refused("formula(0, " + what + ")", FoldedHeaps.BAD, x -> x.formula(0, what));
        }
        e.due("formula(0, 0) of none", FoldedHeaps.BAD, new Calls().formula(0, 0));
    }
}
