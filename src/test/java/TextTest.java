/** Promises 1 to 5: a new object, the tape, the text and its faults. */
final class TextTest {
    private static final Check CHECK = new Check("TextTest");

    public static void main(String[] args) {
        newObject();
        tape();
        takenTexts();
        faults();
        faultsByOrder();
        refusedTextChangesNothing();
        takenTextReplacesAll();
        textsOneBehindAnother();
        CHECK.close();
    }

    private static void newObject() {
        FoldedHeaps x = new FoldedHeaps();
        for (int what = 0; what <= 6; what++) {
            CHECK.due("rule(" + what + ") of a new one", 0, x.rule(what));
        }
        CHECK.due("rule(7) of a new one", 1, x.rule(7));
        CHECK.due("fault() of a new one", 0, x.fault());
        CHECK.due("torn() of a new one", 0, x.torn());
        CHECK.due("count(0)", 0, x.count(0));
        CHECK.due("count(1)", 0, x.count(1));
        CHECK.due("count(2)", FoldedHeaps.NONE, x.count(2));
        CHECK.due("count(3)", 0, x.count(3));
        for (int k = 0; k < 4; k++) {
            CHECK.due("lay on a sheet that is nothing", -11, x.lay(k, 0, 1));
        }
    }

    private static void tape() {
        FoldedHeaps x = new FoldedHeaps();
        CHECK.due("feed(-1)", FoldedHeaps.BAD, x.feed(-1));
        CHECK.due("feed(128)", FoldedHeaps.BAD, x.feed(128));
        CHECK.due("feed(0)", 1, x.feed(0));
        CHECK.due("feed(127)", 2, x.feed(127));
        CHECK.due("end(3)", FoldedHeaps.BAD, x.end(3));
        CHECK.due("end(-1)", FoldedHeaps.BAD, x.end(-1));
        CHECK.due("end(2)", 2, x.end(2));
        CHECK.due("end(1)", 2, x.end(1));
        CHECK.due("count(1) behind end(1)", 1, x.count(1));
        CHECK.due("end(0)", 1, x.end(0));
        for (int i = 1; i <= 320; i++) {
            CHECK.due("feed the " + i + "th", i, x.feed(32));
        }
        CHECK.due("feed the 321st", FoldedHeaps.FULL, x.feed(32));
        CHECK.due("feed(128) on a full tape", FoldedHeaps.BAD, x.feed(128));
        CHECK.due("count(1) of a full tape", 320, x.count(1));
        CHECK.due("text() of blanks", 0, x.text());
        CHECK.due("count(1) behind text()", 0, x.count(1));
        Check.feed(x, "node;node;nod");
        CHECK.due("end(5)", 13, x.end(5));
        CHECK.due("text() of what was kept", 1, x.text());
        CHECK.due("rule(0)", 1, x.rule(0));
    }

    private static void takenTexts() {
        taken("", 0, "||||");
        taken("node;", 1, "0|0|0|0|0");
        taken("  node  ;  many;", 2, "01|00|00|00|00 00");
        taken("at x 0;node;", 2, "0|2|0|0|0");
        taken("node;at x0maybe;at y 00;at z 0;at z 0 maybe;", 5, "0|1|2|1|0");
        taken("node;node;next 0 1 maybe;next 1 1;next 0 1;next 1 0 maybe;", 6, "00|00|00|00|02 12");
        taken("many;at x 0;at x 0 maybe;", 3, "1|1|0|0|0");
        taken("node;node;node;node;node;many;next 5 5;at z 05 maybe;", 8,
            "000001|000000|000000|000001|000000 000000 000000 000000 000000 000002");
        taken("ask all a some b all c:same a b;", 1, "||||");
        taken("ask all a:many a ;ask some c:many c not not ;", 2, "||||");
    }

    private static void taken(String text, int lines, String shape) {
        FoldedHeaps x = new FoldedHeaps();
        CHECK.due("text of " + text, lines, Check.tell(x, text));
        CHECK.due("fault of " + text, 0, x.fault());
        CHECK.shapeIs(text, shape, x);
    }

    private static void faults() {
        refused("A", 1, 0);
        refused("node;\n", 1, 5);
        refused("node,", 1, 4);
        refused("at x 000;", 1, 5);
        refused("at x 123;", 1, 5);
        refused("  123", 1, 2);
        refused("Node;", 1, 0);
        refused(";", 2, 0);
        refused("5;", 2, 0);
        refused("nodes;", 2, 0);
        refused("mode;", 2, 0);
        refused("nods;", 2, 0);
        refused("et x 0;", 2, 0);
        refused("x", 2, 0);
        refused("node", 2, 4);
        refused("node   ", 2, 7);
        refused("node:", 2, 4);
        refused("node node;", 2, 5);
        refused("at", 2, 2);
        refused("at 0 0;", 2, 3);
        refused("at a 0;", 2, 3);
        refused("at xy 0;", 2, 3);
        refused("at x x;", 2, 5);
        refused("at x 0 yes;", 2, 7);
        refused("at x 0 maybe maybe;", 2, 13);
        refused("next 0 maybe;", 2, 7);
        refused("next x 0;", 2, 5);
        refused("next 0 1 2;", 2, 9);
        refused("ask", 2, 3);
        refused("ask;", 2, 3);
        refused("ask all;", 2, 7);
        refused("ask all x:", 2, 8);
        refused("ask all ab:", 2, 8);
        refused("ask all a;", 2, 9);
        refused("ask all a:;", 2, 10);
        refused("ask all a::", 2, 10);
        refused("ask all a:at a x;", 2, 13);
        refused("ask all a:at x x;", 2, 15);
        refused("ask all a:same a 0;", 2, 17);
        refused("ask all a:many a maybe;", 2, 17);
        refused("ask all a:many a", 2, 16);
        refused("ask all a:many a:", 2, 16);
        refused("at x 6;", 3, 5);
        refused("at x 99;", 3, 5);
        refused("next 6 0;", 3, 5);
        refused("next 0 06;", 3, 7);
        refused("ask all a some a:many a;", 4, 15);
        refused("ask all b all c some b:many c;", 4, 21);
        refused("ask all a some b all c all d:", 2, 27);
        refused("ask all a some b all c all a:", 4, 27);
        refused("ask:many a;", 4, 9);
        refused("ask all a:many b;", 4, 15);
        refused("ask all a:next b b;", 4, 15);
        refused("ask all a:next a b;", 4, 17);
        refused("ask:not;", 4, 4);
        refused("ask all a:and;", 4, 10);
        refused("ask all a:many a and;", 4, 17);
        refused("ask all a:many a or;", 4, 17);
        refused("ask all a:many a many a;", 4, 23);
        refused("node;node;node;node;node;node;node;", 5, 30);
        refused("many;node;many;node;many;node;many", 5, 30);
        refused("ask all a:many a;ask all a:many a;ask all a:many a;ask all a:many a;ask", 5, 68);
        refused("ask all a:many a not not not not not not not not not not not not;", 5, 61);
        refused("ask all a:many a not not not not not not not not not not not at;", 5, 61);
        refused("ask all a:many a not not not not not not not not not not not x;", 2, 61);
        refused("at x 0;", 6, 7);
        refused("node;next 1 0;", 6, 14);
        refused("node;next 0 1 ;  ", 6, 17);
        refused("node;at z 5;at x 0;", 6, 19);
    }

    /** The first fault that is met counts, not the one with the least number. */
    private static void faultsByOrder() {
        refused("at x 6 A", 3, 5);
        refused("node 1 A", 2, 5);
        refused("at x 0;A", 1, 7);
        refused("at x 0;node", 2, 11);
        refused("ask all a all a A", 4, 14);
        refused("ask all a:not A", 4, 10);
        refused("ask all a:many a many a;A", 4, 23);
        refused("node;node;node;node;node;node;node A", 5, 30);
        refused("next 0 6 maybe:", 3, 7);
        refused("at x 1234", 1, 5);
        refused("node 1234", 1, 5);
    }

    private static void refused(String text, int fault, int place) {
        FoldedHeaps x = new FoldedHeaps();
        CHECK.due("text of " + text, -10 - place, Check.tell(x, text));
        CHECK.due("fault of " + text, fault, x.fault());
        CHECK.due("the tape behind " + text, 0, x.count(1));
        CHECK.due("nodes behind " + text, 0, x.rule(0));
        CHECK.due("formulas behind " + text, 0, x.rule(1));
    }

    private static void refusedTextChangesNothing() {
        FoldedHeaps x = Check.told("node;many;at x 0;next 0 1 maybe;ask some a:at x a;");
        x.keep(0);
        String was = Check.shape(x);
        CHECK.due("a text with a fault", -10 - 16, Check.tell(x, "node;ask all b: A"));
        CHECK.due("fault()", 1, x.fault());
        CHECK.due("fault() again", 1, x.fault());
        CHECK.shapeIs("a text with a fault", was, x);
        CHECK.due("rule(1)", 1, x.rule(1));
        CHECK.due("formula(0, 1)", 0, x.formula(0, 1));
        CHECK.due("ask(0)", 2, x.ask(0));
        CHECK.due("count(0)", 1, x.count(0));
        CHECK.due("count(3)", 1, x.count(3));
    }

    private static void takenTextReplacesAll() {
        FoldedHeaps x = Check.told("node;many;at x 0;next 0 1 maybe;ask some a:at x a;");
        x.keep(0);
        x.keep(1);
        x.sheet(0, 0, 3);
        CHECK.due("an empty text", 0, x.text());
        CHECK.shapeIs("an empty text", "||||", x);
        CHECK.due("rule(1)", 0, x.rule(1));
        CHECK.due("count(0): images are gone", 0, x.count(0));
        CHECK.due("back(0): images are gone", FoldedHeaps.STATE, x.back(0));
        CHECK.due("keep(1): images are gone", 0, x.keep(1));
        CHECK.due("count(2): sheets are not", 3, x.count(2));
        CHECK.due("add(0)", 1, x.add(0));
        CHECK.shapeIs("add(0)", "0|0|0|0|0", x);
    }

    /** What an older text told, or one that was refused, does not shine through. */
    private static void textsOneBehindAnother() {
        FoldedHeaps x = new FoldedHeaps();
        for (int time = 0; time < 4; time++) {
            CHECK.due("a long text", 8, Check.tell(x, "many;many;at x 0;at y 1;next 0 1;next 1 0;"
                + "ask all a some b:same a b many a or many b or;ask all c:many c;"));
            CHECK.due("formula(0, 0)", 2, x.formula(0, 0));
            CHECK.due("formula(0, 2)", 5, x.formula(0, 2));
            CHECK.due("formula(0, 3)", 2, x.formula(0, 3));
            CHECK.due("a text that is refused", -10 - 19, Check.tell(x, "many;node;at x 1;  A"));
            CHECK.due("a short text", 3, Check.tell(x, "node;node;ask some b:many b;"));
            CHECK.shapeIs("a short text", "00|00|00|00|00 00", x);
            CHECK.due("formula(0, 0)", 1, x.formula(0, 0));
            CHECK.due("formula(0, 1)", 0, x.formula(0, 1));
            CHECK.due("formula(0, 2)", 1, x.formula(0, 2));
            CHECK.due("formula(0, 3)", 1, x.formula(0, 3));
            CHECK.due("rule(1)", 1, x.rule(1));
            CHECK.due("count(3)", 1, x.count(3));
            CHECK.due("ask(0)", 0, x.ask(0));
        }
    }
}
