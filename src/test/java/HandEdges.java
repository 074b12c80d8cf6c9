/** Promises 12 to 16: what is changed by hand. */
final class HandEdges {
    private static final String NONE_YET = "000000 000000 000000 000000 000000 000000";

    private final Edges e;

    HandEdges(Edges edges) {
        e = edges;
    }

    void all() {
        e.sentence(12, "A NODE more, MANY (1) or not (0), with no AT, no NEXT: how many there are.", this::adds);
        e.sentence(12, "BAD;", this::badAdds);
        e.sentence(12, "FULL.", this::fullAdds);
        e.sentence(13, "A NODE goes, those behind it are numbered one less: how many are left.", this::loses);
        e.sentence(13, "BAD.", this::badLoses);
        e.sentence(14, "A NODE is MANY (1) or not (0): whether it was.", this::manys);
        e.sentence(14, "BAD.", this::badManys);
        e.sentence(15, "AT of a VARIABLE and a NODE becomes a TRUTH: what it was.", this::places);
        e.sentence(15, "BAD.", this::badPlaces);
        e.sentence(16, "NEXT of two NODES becomes a TRUTH: what it was.", this::leads);
        e.sentence(16, "BAD.", this::badLeads);
    }

    private void adds() {
        Calls x = new Calls();
        for (int i = 0; i < 6; i++) {
            e.due("add(" + i % 2 + ")", i + 1, x.add(i % 2));
        }
        e.shape("six adds", "010101|000000|000000|000000|" + NONE_YET, x);
        // what the last one had must not come again with a new one
        x.many(5, 1);
        x.place(0, 5, 2);
        x.place(2, 5, 1);
        x.lead(5, 5, 2);
        x.lead(5, 0, 1);
        x.lead(0, 5, 2);
        e.due("lose(5)", 5, x.lose(5));
        e.due("add(0)", 6, x.add(0));
        e.shape("lose, add", "010100|000000|000000|000000|" + NONE_YET, x);
    }

    private void badAdds() {
        for (int many : Edges.outside(0, 1)) {
            e.refused("add(" + many + ")", FoldedHeaps.BAD, x -> x.add(many));
        }
    }

    private void fullAdds() {
        e.refused(Edges::sixNodes, "add(0) with 6 nodes", FoldedHeaps.FULL, x -> x.add(0));
        e.refused(Edges::sixNodes, "add(1) with 6 nodes", FoldedHeaps.FULL, x -> x.add(1));
        Calls x = Edges.sixNodes();
        x.lose(0);
        e.due("add(1) with 5 nodes", 6, x.add(1));
        e.due("add(1) with 6 nodes", FoldedHeaps.FULL, x.add(1));
    }

    private void loses() {
        String text = "node;many;node;at x 0;at y 1;at z 2 maybe;next 0 0;next 0 1;next 0 2 maybe;next 1 0;next 2 1;next 2 2;";
        lost(text, 0, "10|00|20|01|00 22");
        lost(text, 1, "00|20|00|01|21 02");
        lost(text, 2, "01|20|02|00|22 20");
        Calls x = Calls.told("node;");
        e.due("lose(0), the only one", 0, x.lose(0));
        e.shape("lose(0)", "||||", x);
        Calls six = Edges.sixNodes();
        e.due("lose(0) of six", 5, six.lose(0));
        e.shape("lose(0)", "10101|10000|00001|00000|00001 00000 00000 00000 00000", six);
        six.lose(4);
        e.shape("lose(4)", "1010|1000|0000|0000|0000 0000 0000 0000", six);
    }

    private void lost(String text, int i, String shape) {
        Calls x = Calls.told(text);
        e.due("lose(" + i + ")", 2, x.lose(i));
        e.shape("lose(" + i + ")", shape, x);
    }

    private void badLoses() {
        for (int i : Edges.outside(0, 2)) {
            e.refused("lose(" + i + ")", FoldedHeaps.BAD, x -> x.lose(i));
        }
        e.refused(Edges::sixNodes, "lose(6)", FoldedHeaps.BAD, x -> x.lose(6));
        e.due("lose(0) of none", FoldedHeaps.BAD, new Calls().lose(0));
    }

    private void manys() {
        Calls x = Calls.told("node;many;node;");
        e.due("many(0, 1)", 0, x.many(0, 1));
        e.due("many(0, 1) again", 1, x.many(0, 1));
        e.due("many(1, 0)", 1, x.many(1, 0));
        e.due("many(1, 0) again", 0, x.many(1, 0));
        e.due("many(2, 1), the last", 0, x.many(2, 1));
        e.shape("manys", "101|000|000|000|000 000 000", x);
    }

    private void badManys() {
        for (int i : Edges.outside(0, 2)) {
            e.refused("many(" + i + ", 0)", FoldedHeaps.BAD, x -> x.many(i, 0));
            e.refused("many(" + i + ", 1)", FoldedHeaps.BAD, x -> x.many(i, 1));
        }
        for (int on : Edges.outside(0, 1)) {
            e.refused("many(0, " + on + ")", FoldedHeaps.BAD, x -> x.many(0, on));
            e.refused("many(1, " + on + ")", FoldedHeaps.BAD, x -> x.many(1, on));
        }
    }

    private void places() {
        Calls x = Calls.told("node;node;");
        int was = 0;
        for (int truth : new int[] {1, 2, 0, 2, 1, 0, 0, 1}) {
            e.due("place(2, 1, " + truth + ")", was, x.place(2, 1, truth));
            was = truth;
        }
        e.due("place(0, 0, 2)", 0, x.place(0, 0, 2));
        e.due("place(0, 1, 2), at a second one", 0, x.place(0, 1, 2));
        e.shape("places", "00|22|00|01|00 00", x);
    }

    private void badPlaces() {
        for (int out : Edges.outside(0, 2)) {
            // variables, nodes and truths are three each here
            e.refused("place(" + out + ", 0, 1)", FoldedHeaps.BAD, x -> x.place(out, 0, 1));
            e.refused("place(0, " + out + ", 1)", FoldedHeaps.BAD, x -> x.place(0, out, 1));
            e.refused("place(0, 0, " + out + ")", FoldedHeaps.BAD, x -> x.place(0, 0, out));
        }
        e.due("place(0, 0, 0) of none", FoldedHeaps.BAD, new Calls().place(0, 0, 0));
    }

    private void leads() {
        Calls x = Calls.told("node;node;");
        int was = 0;
        for (int truth : new int[] {1, 2, 0, 2, 1, 0, 0, 1}) {
            e.due("lead(1, 0, " + truth + ")", was, x.lead(1, 0, truth));
            was = truth;
        }
        e.due("lead(1, 1, 2), of one and itself", 0, x.lead(1, 1, 2));
        e.due("lead(1, 1, 1), again", 2, x.lead(1, 1, 1));
        e.shape("leads", "00|00|00|00|00 11", x);
    }

    private void badLeads() {
        for (int out : Edges.outside(0, 2)) {
            e.refused("lead(" + out + ", 0, 1)", FoldedHeaps.BAD, x -> x.lead(out, 0, 1));
            e.refused("lead(0, " + out + ", 1)", FoldedHeaps.BAD, x -> x.lead(0, out, 1));
            e.refused("lead(0, 0, " + out + ")", FoldedHeaps.BAD, x -> x.lead(0, 0, out));
        }
        e.due("lead(0, 0, 0) of none", FoldedHeaps.BAD, new Calls().lead(0, 0, 0));
    }
}
