/** What the document says of all calls: how many, what is answered when one is refused, and what stays. */
final class AnswerEdges {
    private final Edges e;

    AnswerEdges(Edges edges) {
        e = edges;
    }

    void all() {
        e.sentence(0, "An object is used for at most 512 calls after it has been made; what later calls answer is free.",
            this::calls512);
        e.sentence(0, "Answers: BAD -1 (a number is not as told, there is no such NODE, VARIABLE, FORMULA, IMAGE, SHEET),",
            this::bad);
        e.sentence(0, "STATE -2 (as told),", this::state);
        e.sentence(0, "FULL -3,", this::full);
        e.sentence(0, "NONE -4 (there is none),", this::none);
        e.sentence(0, "the first that fits;", this::theFirstThatFits);
        e.sentence(0, "what is refused changes nothing (but THE TAPE, as told).", this::refusedChangesNothing);
    }

    private void calls512() {
        Calls x = new Calls();
        x.feedAll(" ".repeat(315) + "node;");
        for (int made = x.made(); made < Calls.MOST - 2; made++) {
            e.due("feed(59) on a full tape", FoldedHeaps.FULL, x.feed(';'));
        }
        e.due("text(), the 511th call", 1, x.text());
        e.due("deed(5, 0, 0), the 512th call", 2, x.deed(5, 0, 0));
        e.due("calls", Calls.MOST, x.made());
    }

    private void bad() {
        e.due("BAD", -1, FoldedHeaps.BAD);
        Calls x = Edges.someOfAll();
        e.due("add(2), a number", -1, x.add(2));
        e.due("node(3, 0), a node", -1, x.node(3, 0));
        e.due("lose(3), a node", -1, x.lose(3));
        e.due("pair(0, 3, 0), a node", -1, x.pair(0, 3, 0));
        e.due("held(3), a variable", -1, x.held(3));
        e.due("ask(2), a formula", -1, x.ask(2));
        e.due("keep(2), an image", -1, x.keep(2));
        e.due("lay(4, 0, 0), a sheet", -1, x.lay(4, 0, 0));
    }

    private void state() {
        e.due("STATE", -2, FoldedHeaps.STATE);
        Calls x = Calls.told("node;node;at x 0;at x 1;");
        e.due("back(0) of none", -2, x.back(0));
        e.due("covers(1, 0) of none", -2, x.covers(1, 0));
        e.due("sharpen() of no such thing", -2, x.sharpen());
    }

    private void full() {
        e.due("FULL", -3, FoldedHeaps.FULL);
        Calls x = Edges.sixNodes();
        e.due("add(0) with 6 nodes", -3, x.add(0));
        e.due("deed(5, 0, 0) with 6 nodes", -3, x.deed(5, 0, 0));
        e.due("split(0, 2) with 6 nodes", -3, x.split(0, 2));
        x.feedAll(" ".repeat(320));
        e.due("feed(32) with 320 bytes", -3, x.feed(' '));
    }

    private void none() {
        e.due("NONE", -4, FoldedHeaps.NONE);
        e.due("count(2) of nothing", -4, new Calls().count(2));
    }

    /** By the order of the answers: BAD ahead of STATE and of FULL. */
    private void theFirstThatFits() {
        Calls x = Edges.sixNodes();
        x.feedAll(" ".repeat(320));
        e.due("feed(128) on a full tape", FoldedHeaps.BAD, x.feed(128));
        e.due("add(2) with 6 nodes", FoldedHeaps.BAD, x.add(2));
        e.due("deed(5, 3, 0) with 6 nodes", FoldedHeaps.BAD, x.deed(5, 3, 0));
        e.due("split(0, 3), no such way, with 6 nodes", FoldedHeaps.BAD, x.split(0, 3));
        e.due("split(3, 2), no such variable, with 6 nodes", FoldedHeaps.BAD, x.split(3, 2));
        e.due("back(2) where 1 is none", FoldedHeaps.BAD, x.back(2));
        e.due("covers(1, 2) of none", FoldedHeaps.BAD, x.covers(1, 2));
        e.due("covers(2, 0)", FoldedHeaps.BAD, x.covers(2, 0));
        e.due("sheet(4, 0, -1)", FoldedHeaps.BAD, x.sheet(4, 0, -1));
        e.due("sheet(0, 3, -1)", FoldedHeaps.BAD, x.sheet(0, 3, -1));
        e.due("lay(4, -1, 0)", FoldedHeaps.BAD, x.lay(4, -1, 0));
        e.due("read(0, 3, -1, 1) of nothing", FoldedHeaps.BAD, x.read(0, 3, -1, 1));
        e.due("read(0, 0, -1, 14) of nothing", FoldedHeaps.BAD, x.read(0, 0, -1, 14));
    }

    private void refusedChangesNothing() {
        e.refused("feed(128)", FoldedHeaps.BAD, x -> x.feed(128));
        e.refused("end(24)", FoldedHeaps.BAD, x -> x.end(24));
        e.refused("add(2)", FoldedHeaps.BAD, x -> x.add(2));
        e.refused("deed(4, 0, 3)", FoldedHeaps.BAD, x -> x.deed(4, 0, 3));
        e.refused("sheet(0, 1, -1)", -14, x -> x.sheet(0, 1, -1));
        e.refused("lay(0, 7, 1)", -12, x -> x.lay(0, 7, 1));
        e.refused("read of a deed that is refused", -20, x -> x.read(2, 2, 2, 1));
        e.refused(Edges::sixNodes, "add(0)", FoldedHeaps.FULL, x -> x.add(0));
        e.refused(Edges::sixNodes, "back(1)", FoldedHeaps.STATE, x -> x.back(1));
        tapeOfARefusedText();
    }

    private void tapeOfARefusedText() {
        Calls x = Edges.someOfAll();
        x.feed('A');
        String was = x.shape();
        e.due("text() with a fault", -10 - 23, x.text());
        e.due("count(1) behind it", 0, x.count(1));
        e.shape("it", was, x);
    }
}
