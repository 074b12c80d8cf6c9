/** Promises 1 to 5: a new object, the tape, the text; which bytes make which tokens. */
final class TextEdges {
    private final Edges e;

    TextEdges(Edges edges) {
        e = edges;
    }

    void all() {
        e.sentence(1, "No NODES, no FORMULAS;", this::newHasNoNodes);
        e.sentence(1, "SHEETS have nothing.", this::newSheets);
        e.sentence(2, "A byte (0 to 127) comes behind THE TAPE: how many it has.", this::feeds);
        e.sentence(2, "BAD;", this::feedsOfNoByte);
        e.sentence(2, "FULL: more than 320.", this::fullTape);
        e.sentence(2, "THE TAPE has 320 bytes, places from 0.", this::places);
        e.sentence(3, "THE TAPE keeps its first n bytes: how many it had.", this::ends);
        e.sentence(3, "BAD.", this::endsOutOfTheTape);
        e.sentence(4, "THE TAPE (empty then) tells all: how many lines;", this::lines);
        e.sentence(4, "-10 less the place of its FAULT: that which was told stays.", this::whatWasToldStays);
        e.sentence(5, "The FAULT of the latest text(); 0.", this::latestFault);
        e.sentence(4, "TOKENS, each as long as may be,", this::longTokens);
        e.sentence(4, "blanks (32) between:", this::blanks);
        e.sentence(4, "NAMES (a .. z),", this::names);
        e.sentence(4, "NUMBERS (1 or 2 figures),", this::numbers);
        e.sentence(4, "one of ; :", this::signs);
        e.sentence(4, "node, many: a NODE more (many: MANY).", this::nodes);
        e.sentence(4, "at, next: of NODES (0 to 5): yes, or maybe (all else is no; the latter holds).", this::truths);
        e.sentence(4, "ask: a FORMULA more.", this::formulas);
        e.sentence(4, "A text that is taken tells all, in place of what there was; IMAGES are gone.", this::inPlaceOfAll);
    }

    private void newHasNoNodes() {
        Calls x = new Calls();
        e.due("rule(0)", 0, x.rule(0));
        e.due("rule(1)", 0, x.rule(1));
        e.due("node(0, 0)", FoldedHeaps.BAD, x.node(0, 0));
        e.due("pair(0, 0, 0)", FoldedHeaps.BAD, x.pair(0, 0, 0));
        e.due("lose(0)", FoldedHeaps.BAD, x.lose(0));
        e.due("ask(0)", FoldedHeaps.BAD, x.ask(0));
        e.due("formula(0, 0)", FoldedHeaps.BAD, x.formula(0, 0));
        e.due("count(3)", 0, x.count(3));
    }

    private void newSheets() {
        Calls x = new Calls();
        e.due("count(2)", FoldedHeaps.NONE, x.count(2));
        for (int k = 0; k <= 3; k++) {
            e.due("lay on sheet " + k, -11, x.lay(k, 0, 0));
            e.due("read of sheet " + k, 0, x.read(k, 0, 0, 1));
            e.due("torn()", 1, x.torn());
        }
    }

    private void feeds() {
        Calls x = new Calls();
        for (int c = 0; c <= 127; c++) {
            e.due("feed(" + c + ")", c + 1, x.feed(c));
        }
        Calls behind = new Calls();
        behind.feedAll("nod");
        e.due("feed(101)", 4, behind.feed('e'));
        e.due("feed(59)", 5, behind.feed(';'));
        e.due("text() of what came behind", 1, behind.text());
        e.due("feed on the emptied tape", 1, behind.feed('n'));
    }

    private void feedsOfNoByte() {
        for (int c : Edges.outside(0, 127)) {
            e.refused("feed(" + c + ")", FoldedHeaps.BAD, x -> x.feed(c));
        }
        e.refused("feed(256 + 110)", FoldedHeaps.BAD, x -> x.feed(256 + 'n'));
        e.refused("feed(-128)", FoldedHeaps.BAD, x -> x.feed(-128));
    }

    private void fullTape() {
        Calls x = new Calls();
        x.feedAll(" ".repeat(314) + "node");
        e.due("feed, the 319th", 319, x.feed(';'));
        e.due("feed, the 320th", 320, x.feed(' '));
        e.due("feed, the 321st", FoldedHeaps.FULL, x.feed('x'));
        e.due("feed, once more", FoldedHeaps.FULL, x.feed('x'));
        e.due("count(1)", 320, x.count(1));
        e.due("text() of the 320 bytes", 1, x.text());
        e.due("rule(0)", 1, x.rule(0));
        Calls room = new Calls();
        room.feedAll(" ".repeat(320));
        room.end(319);
        e.due("feed where end(319) made room", 320, room.feed(' '));
        e.due("feed behind it", FoldedHeaps.FULL, room.feed(' '));
    }

    private void places() {
        e.due("text() with a fault at the first place", -10, new Calls().tell("A"));
        e.due("text() with a fault at the last place", -10 - 319, new Calls().tell(" ".repeat(319) + "A"));
        e.due("text() with a fault behind the last place", -10 - 320, new Calls().tell(" ".repeat(316) + "node"));
    }

    private void ends() {
        Calls x = new Calls();
        e.due("end(0) of an empty tape", 0, x.end(0));
        x.feedAll("node;many;A");
        e.due("end(11), all of it", 11, x.end(11));
        e.due("end(10)", 11, x.end(10));
        e.due("end(5)", 10, x.end(5));
        e.due("feed behind the first 5", 6, x.feed(' '));
        e.due("text() of the first 5", 1, x.text());
        e.shape("it", "0|0|0|0|0", x);
        x.feedAll(" ".repeat(320));
        e.due("end(320) of a full tape", 320, x.end(320));
        e.due("end(0) of a full tape", 320, x.end(0));
        e.due("count(1)", 0, x.count(1));
    }

    private void endsOutOfTheTape() {
        int had = Edges.someOfAll().count(1);
        for (int n : Edges.outside(0, had)) {
            e.refused("end(" + n + ")", FoldedHeaps.BAD, x -> x.end(n));
        }
        e.due("end(1) of an empty tape", FoldedHeaps.BAD, new Calls().end(1));
        Calls x = new Calls();
        x.feedAll(" ".repeat(320));
        e.due("end(321) of a full tape", FoldedHeaps.BAD, x.end(321));
        e.due("count(1)", 320, x.count(1));
    }

    private void lines() {
        Calls x = Calls.told("node;ask some a:many a;");
        e.due("text() of an empty tape", 0, x.text());
        e.due("rule(0) behind it", 0, x.rule(0));
        e.due("rule(1) behind it", 0, x.rule(1));
        e.due("text() of blanks", 0, x.tell("   "));
        e.due("text() of one line", 1, x.tell("many;"));
        e.due("count(1) behind it", 0, x.count(1));
        e.due("text() of five lines", 5, x.tell("node;many;at x 1;next 0 1 maybe;ask all a:many a;"));
        e.due("text() with a fault", -10 - 4, x.tell("node"));
        e.due("count(1) behind it", 0, x.count(1));
        e.due("text() of 46 lines in 320 bytes", 46, new Calls().tell("node;" + "at x 0;".repeat(45)));
    }

    /** For each fault a text whose lines ahead of it would change all, had they been taken. */
    private void whatWasToldStays() {
        whatWasToldStays("A", 0);
        whatWasToldStays("many;at z 0;A", 12);
        whatWasToldStays("many;at z 0;ask some a:many a;node", 34);
        whatWasToldStays("many;at z 0;at y 0 maybe;at x 6;", 30);
        whatWasToldStays("many;ask some a:many a;ask some a:not;", 34);
        whatWasToldStays("many;many;many;many;many;many;many;", 30);
        whatWasToldStays("many;next 0 0;at z 0 maybe;at x 1;", 34);
    }

    private void whatWasToldStays(String text, int place) {
        e.refused(TextEdges::withoutTape, "text() of " + text, -10 - place, x -> {
            int answer = x.tell(text);
            // so that fault() is 1 as in the past, whatever it was by the text
            x.tell("A");
            return answer;
        });
    }

    private static Calls withoutTape() {
        Calls x = Edges.someOfAll();
        x.end(0);
        return x;
    }

    private void latestFault() {
        Calls x = new Calls();
        e.due("fault() ahead of any text()", 0, x.fault());
        String[] faulty = {"A", "node", "at x 6;", "ask all a:not;", "node;".repeat(7), "at x 0;"};
        for (int fault = 1; fault <= 6; fault++) {
            x.tell(faulty[fault - 1]);
            e.due("fault() of " + faulty[fault - 1], fault, x.fault());
            x.feed(128);
            x.lose(9);
            e.due("fault() behind other calls", fault, x.fault());
        }
        x.tell("node;");
        e.due("fault() of a text that is taken", 0, x.fault());
        x.tell("A");
        x.text();
        e.due("fault() of an empty text", 0, x.fault());
    }

    private void taken(String text, int lines, String shape) {
        Calls x = new Calls();
        e.due("text() of " + text, lines, x.tell(text));
        e.shape(text, shape, x);
    }

    private void refused(String text, int fault, int place) {
        Calls x = new Calls();
        e.due("text() of " + text, -10 - place, x.tell(text));
        e.due("fault() of " + text, fault, x.fault());
    }

    private void longTokens() {
        refused("nodemany;", 2, 0);
        refused("atx 0;", 2, 0);
        refused("node;at x 0 maybenode;", 2, 12);
        refused("at x 0123;", 1, 5);
        // a name ends where a figure stands, a number where a name does
        taken("node;at x0maybe;", 2, "0|1|0|0|0");
        taken("node;next 00 00maybe;", 2, "0|0|0|0|1");
        refused("node0;", 2, 4);
    }

    private void blanks() {
        taken("   node   ;   many;   ", 2, "01|00|00|00|00 00");
        taken("node;many;", 2, "01|00|00|00|00 00");
        refused("no de;", 2, 0);
        refused("node;next 0 0 0;", 2, 14);
        // the bytes next to 32, and others that look like blanks
        for (char c : new char[] {0, 9, 10, 11, 12, 13, 31, 33, 127}) {
            refused("node" + c + ";", 1, 4);
        }
    }

    /** Every byte, alone: a name, a number, a sign, a blank, or no token. */
    private void names() {
        for (char c = 0; c <= 127; c++) {
            boolean isToken = c >= 'a' && c <= 'z' || c >= '0' && c <= '9' || c == ';' || c == ':';
            if (c != ' ') {
                refused("node;" + c, isToken ? 2 : 1, 5);
            }
        }
        // next to a and to z
        refused("node`;", 1, 4);
        refused("node{;", 1, 4);
        refused("nodeE;", 1, 4);
        namesThatAreNotTold();
    }

    /** Each name that a text may have, with a sign more, a sign less, and each of its signs another one. */
    private void namesThatAreNotTold() {
        String[][] starts = {{"", "node many at next ask"}, {"at x 0 ", "maybe"}, {"ask ", "all some"},
            {"ask all a:many a many a ", "at reach next same many not and or"}};
        for (String[] start : starts) {
            for (String name : start[1].split(" ")) {
                int place = start[0].length();
                refused(start[0] + name + "s", 2, place);
                refused(start[0] + name.substring(0, name.length() - 1), 2, place);
                refused(start[0] + name.substring(1), 2, place);
                for (int i = 0; i < name.length(); i++) {
                    refused(start[0] + name.substring(0, i) + "q" + name.substring(i + 1), 2, place);
                }
            }
        }
    }

    private void numbers() {
        taken("node;at x 0;", 2, "0|2|0|0|0");
        taken("node;at x 00;", 2, "0|2|0|0|0");
        taken("node;node;at x 01;", 3, "00|02|00|00|00 00");
        refused("node;at x 000;", 1, 10);
        refused("node;at x " + "0".repeat(310), 1, 10);
        // next to 0 and to 9 (: is a token)
        refused("node;at x 0/;", 1, 11);
        refused("node;at x 0:", 2, 11);
        refused("node;at x -1;", 1, 10);
    }

    private void signs() {
        refused("node;;", 2, 5);
        refused("node:", 2, 4);
        refused("ask all a;", 2, 9);
        refused("ask all a::", 2, 10);
        refused("node<", 1, 4);
        taken("ask some a:many a;", 1, "||||");
        taken("ask some a : many a ;", 1, "||||");
    }

    private void nodes() {
        taken("node;", 1, "0|0|0|0|0");
        taken("many;", 1, "1|0|0|0|0");
        taken("many;node;many;node;node;many;", 6,
            "101001|000000|000000|000000|000000 000000 000000 000000 000000 000000");
    }

    private void truths() {
        taken("node;many;next 0 1;next 1 1 maybe;at z 0;at y 1 maybe;", 6, "01|00|01|20|02 01");
        taken("node;node;node;node;node;node;at x 5;next 5 0 maybe;next 0 5;", 9,
            "000000|000002|000000|000000|000002 000000 000000 000000 000000 100000");
        // of a node that is told only behind it
        taken("at x 0;next 0 0 maybe;node;", 3, "0|2|0|0|1");
        taken("node;at x 0;at x 0 maybe;next 0 0;next 0 0 maybe;", 5, "0|1|0|0|1");
        taken("node;at x 0 maybe;at x 0;next 0 0 maybe;next 0 0;", 5, "0|2|0|0|2");
        allElseIsNo();
    }

    /** Even where an older text, or one that was refused, told it otherwise. */
    private void allElseIsNo() {
        Calls x = new Calls();
        String full = "many;many;at x 0;at y 1 maybe;at z 0;next 0 0;next 0 1;next 1 0 maybe;";
        for (int time = 0; time < 3; time++) {
            e.due("text() of much", 8, x.tell(full));
            e.due("text() of much that is refused", -10 - full.length(), x.tell(full + "A"));
            e.due("text() of two nodes", 2, x.tell("node;node;"));
            e.shape("it", "00|00|00|00|00 00", x);
        }
    }

    private void formulas() {
        Calls x = new Calls();
        e.due("text() of two formulas", 2, x.tell("ask some a:many a;ask all b:many b;"));
        e.due("rule(1)", 2, x.rule(1));
        e.due("formula(0, 1), the first told", 0, x.formula(0, 1));
        e.due("formula(1, 1), the second told", 1, x.formula(1, 1));
        e.due("formula(2, 1), none", FoldedHeaps.BAD, x.formula(2, 1));
        formulasOneBehindAnother();
    }

    /** A formula has nothing of an older one, nor of one that was refused. */
    private void formulasOneBehindAnother() {
        Calls x = new Calls();
        String old = "node;ask all c some b:same b b not same b b and" + " not".repeat(8) + ";";
        for (int time = 0; time < 2; time++) {
            e.due("text() of a long formula", 2, x.tell(old));
            e.due("text() of a long formula that is refused", -10 - old.length(), x.tell(old + "A"));
            e.due("text() of a short formula", 2, x.tell("node;ask some a:same a a;"));
            int[] want = {1, 0, 1, 1};
            for (int what = 0; what < want.length; what++) {
                e.due("formula(0, " + what + ")", want[what], x.formula(0, what));
            }
            e.due("ask(0)", 2, x.ask(0));
            e.due("text() with a letter that an older one told", -10 - 16, x.tell("ask some a:many b;"));
        }
    }

    private void inPlaceOfAll() {
        Calls x = Edges.someOfAll();
        x.end(0);
        e.due("count(0) ahead", 2, x.count(0));
        e.due("text() of less", 3, x.tell("node;node;ask all b:many b;"));
        e.shape("it", "00|00|00|00|00 00", x);
        e.due("rule(1)", 1, x.rule(1));
        e.due("formula(0, 0)", 1, x.formula(0, 0));
        e.due("formula(0, 2)", 1, x.formula(0, 2));
        e.due("ask(0)", 0, x.ask(0));
        e.due("count(0)", 0, x.count(0));
        e.due("back(0)", FoldedHeaps.STATE, x.back(0));
        e.due("covers(1, 0)", FoldedHeaps.STATE, x.covers(1, 0));
        e.due("keep(0)", 0, x.keep(0));
        e.due("count(2): a text tells nothing of sheets", 7, x.count(2));
        e.due("torn(): nor of reads", 2, x.torn());
        e.due("an empty text()", 0, x.text());
        e.shape("it", "||||", x);
        e.due("rule(1)", 0, x.rule(1));
        e.due("count(0)", 0, x.count(0));
    }
}
