import java.util.Arrays;
import java.util.HashSet;
import java.util.Set;

/** Promise 4: what may stand where in a text, and which fault is met first. */
final class GrammarEdges {
    private static final String NAMES = "node many at next ask all some maybe reach same not and or x y z a b c d w u yes no";
    private static final String NODES = "0 1 2 3 4 5 00 05";
    private static final String NO_NODES = "6 06 7 10 50 99";
    private static final String SIGNS = "; :";
    private static final String END = "";

    private final Edges e;

    GrammarEdges(Edges edges) {
        e = edges;
    }

    void all() {
        e.sentence(4, "text: { line }", this::lines);
        e.sentence(4, "line: node ; | many ; | at V N [ maybe ] ; | next N N [ maybe ] ;", this::plainLines);
        e.sentence(4, "| ask { all L | some L } : item { item } ;", this::asks);
        e.sentence(4, "item: at V L | reach V L | next L L | same L L | many L | not | and | or", this::items);
        e.sentence(4, "V: x | y | z", this::variables);
        e.sentence(4, "L: a | b | c", this::letters);
        e.sentence(4, "FAULTS, the first met as it is read (a TOKEN is read when the one before has been taken):",
            this::firstMet);
        e.sentence(4, "1 no TOKEN, a NUMBER that is too long (its first byte).", this::fault1);
        e.sentence(4, "2 a TOKEN that can not stand there (a NAME that is not told of there; or the end: the length).",
            this::fault2);
        e.sentence(4, "3 a NUMBER out of its bounds.", this::fault3);
        e.sentence(4, "4 a LETTER a second time behind all, some,", this::fault4ForLettersTwice);
        e.sentence(4, "one that none of these told (it);", this::fault4ForLettersNotTold);
        e.sentence(4, "not, and, or with too few on the heap (it);", this::fault4ForTooFew);
        e.sentence(4, "the ; behind ITEMS by which not just one is left (it).", this::fault4ForTooMany);
        e.sentence(4, "5 the 7th NODE, the 5th ask, the 13th ITEM (its NAME).", this::fault5);
        e.sentence(4, "Behind all (the length): 6 a NODE is told that there is not.", this::fault6);
    }

    private void refused(String text, int fault, int place) {
        Calls x = new Calls();
        e.due("text() of " + text, -10 - place, x.tell(text));
        e.due("fault() of " + text, fault, x.fault());
    }

    private void taken(String text, int lines) {
        e.due("text() of " + text, lines, new Calls().tell(text));
    }

    /** Every token, and the end, behind a start of a text: those told may stand there, all others are fault 2. */
    private void stands(String start, String... told) {
        Set<String> may = new HashSet<>();
        for (String words : told) {
            may.addAll(Arrays.asList(words.split(" ")));
        }
        for (String token : (NAMES + " " + NODES + " " + NO_NODES + " " + SIGNS).split(" ")) {
            boolean outOfBounds = may.contains("0") && Arrays.asList(NO_NODES.split(" ")).contains(token);
            if (outOfBounds) {
                refused(start + " " + token, 3, start.length() + 1);
            } else if (may.contains(token)) {
                standsThere(start, token);
            } else if (!may.contains(token + "=4")) {
                refused(start + " " + token, 2, start.length() + 1);
            } else {
                refused(start + " " + token, 4, start.length() + 1);
            }
        }
        if (!may.contains(END)) {
            refused(start, 2, start.length());
            refused(start + "  ", 2, start.length() + 2);
        }
    }

    /** Taken, or the fault that is met lies behind it. */
    private void standsThere(String start, String token) {
        String text = start + " " + token;
        Calls x = new Calls();
        int answer = x.tell(text);
        boolean isBehind = answer >= 0 || answer == -10 - text.length();
        e.due(token + " stands behind " + start, 1, isBehind ? 1 : 0);
    }

    private void lines() {
        stands("", "node many at next ask", END);
        stands("node ;", "node many at next ask", END);
        stands("node ; many ; at x 0 ;", "node many at next ask", END);
        taken("", 0);
        taken("node;", 1);
        taken("node;many;at x 0;next 0 1;ask some a:many a;", 5);
        taken("ask some a:many a;next 0 1;at x 0;many;node;", 5);
    }

    private void plainLines() {
        stands("node", ";");
        stands("many", ";");
        stands("at", "x y z");
        stands("at y", NODES);
        stands("at y 0", "maybe ;");
        stands("at y 0 maybe", ";");
        stands("next", NODES);
        stands("next 0", NODES);
        stands("next 0 0", "maybe ;");
        stands("next 0 0 maybe", ";");
        taken("node;at x 0;at y 0 maybe;next 0 0;next 0 0 maybe;", 5);
    }

    private void asks() {
        stands("ask", "all some :");
        stands("ask all", "a b c");
        stands("ask some", "a b c");
        stands("ask some b", "all some :");
        stands("ask some b all a", "all some :");
        stands("ask some b all a some c", "all some :");
        stands("ask some b all a some c :", "at reach next same many not=4 and=4 or=4");
        stands("ask :", "at reach next same many not=4 and=4 or=4");
        stands("ask some b : many b", "at reach next same many not ; and=4 or=4");
        stands("ask some b : many b many b", "at reach next same many not and or ;=4");
        taken("ask all a:many a;", 1);
        taken("ask all a some b all c:many a many b many c or and;", 1);
    }

    private void items() {
        for (String item : new String[] {"at", "reach"}) {
            stands("ask all b : " + item, "x y z");
            stands("ask all b : " + item + " x", "b a=4 c=4");
            stands("ask all b : " + item + " x b", "at reach next same many not ; and=4 or=4");
        }
        for (String item : new String[] {"next", "same"}) {
            stands("ask all b : " + item, "b a=4 c=4");
            stands("ask all b : " + item + " b", "b a=4 c=4");
            stands("ask all b : " + item + " b b", "at reach next same many not ; and=4 or=4");
        }
        stands("ask all b : many", "b a=4 c=4");
        stands("ask all b : many b not", "at reach next same many not ; and=4 or=4");
        stands("ask all b : many b many b and", "at reach next same many not ; and=4 or=4");
        stands("ask all b : many b many b or", "at reach next same many not ; and=4 or=4");
        taken("ask all b:at x b reach z b and next b b or same b b many b and and not;", 1);
    }

    /** Seen by which of three nodes each one is put at. */
    private void variables() {
        Calls x = Calls.told("node;node;node;at x 0;at y 1;at z 2;");
        e.shape("at x 0;at y 1;at z 2;", "000|200|020|002|000 000 000", x);
        stands("at", "x y z");
        refused("at xx 0;", 2, 3);
        refused("at xy 0;", 2, 3);
    }

    private void letters() {
        for (String letter : "a b c".split(" ")) {
            taken("ask all " + letter + ":many " + letter + ";", 1);
            taken("ask some " + letter + ":at x " + letter + ";", 1);
        }
        stands("ask all", "a b c");
        refused("ask all aa:many a;", 2, 8);
        refused("ask all a:many aa;", 2, 15);
    }

    /** Behind each fault another one lies, with a number that is less or greater: it is never come to. */
    private void firstMet() {
        refused("node A;", 1, 5);
        refused("node ; ; A", 2, 7);
        refused("at x 6A", 3, 5);
        refused("at x 6 000", 3, 5);
        refused("ask all a some aA", 4, 15);
        refused("ask all a:many bA", 4, 15);
        refused("ask all a:not A", 4, 10);
        refused("ask all a:many a and 000", 4, 17);
        refused("ask all a:many a many a;A", 4, 23);
        refused("node;node;node;node;node;node;nodeA", 5, 30);
        refused("node;node;node;node;node;node;many many", 5, 30);
        refused("ask all a:many a;".repeat(4) + "ask A", 5, 68);
        refused("at x 5;node", 2, 11);
        refused("at x 5;A", 1, 7);
        refused("at x 5;at x 6;", 3, 12);
        // a token is not read ahead: what stands behind ; counts only when that is taken
        refused("at x 0 A", 1, 7);
        refused("at x 0;000", 1, 7);
    }

    private void fault1() {
        refused("A", 1, 0);
        refused("  A", 1, 2);
        refused("node;#", 1, 5);
        refused("node ?", 1, 5);
        refused("at x .", 1, 5);
        refused("000", 1, 0);
        refused("at x 100;", 1, 5);
        refused("at x  0000;", 1, 6);
        refused("node 123;", 1, 5);
        refused("ask all 123", 1, 8);
        refused("node;" + (char) 0, 1, 5);
        refused("node;" + (char) 127, 1, 5);
    }

    private void fault2() {
        refused("x", 2, 0);
        refused("node;and;", 2, 5);
        refused("maybe;", 2, 0);
        refused("node maybe;", 2, 5);
        refused("at x 0 maybe maybe;", 2, 13);
        refused("at x 0 yes;", 2, 7);
        refused("ask all d:many d;", 2, 8);
        refused("ask all a:;", 2, 10);
        refused("ask all a:node", 2, 10);
        // the end, which is told by the length, blanks and all
        refused("node", 2, 4);
        refused("node    ", 2, 8);
        refused("ask all a:many a", 2, 16);
        refused("at x 0 maybe ", 2, 13);
        refused(" ".repeat(316) + "node", 2, 320);
    }

    private void fault3() {
        for (int i = 0; i <= 5; i++) {
            taken("node;node;node;node;node;node;at x " + i + ";next " + i + " 0" + i + ";", 8);
        }
        for (int i = 6; i <= 99; i++) {
            refused("at x " + i + ";", 3, 5);
            refused("next " + i + " 0;", 3, 5);
            refused("next 5 " + i + ";", 3, 7);
        }
        refused("node;at z 06 maybe;", 3, 10);
    }

    private void fault4ForLettersTwice() {
        refused("ask all a all a:many a;", 4, 14);
        refused("ask all a some a:many a;", 4, 15);
        refused("ask some b all b:many b;", 4, 15);
        refused("ask some c some c:many c;", 4, 16);
        refused("ask all a all b all c all a:many a;", 4, 26);
        refused("ask all a all b all c some b:many a;", 4, 27);
        refused("ask all a all b all c some c:many a;", 4, 27);
        // each formula tells its own
        taken("ask all a:many a;ask all a:many a;", 2);
    }

    private void fault4ForLettersNotTold() {
        refused("ask:many a;", 4, 9);
        refused("ask all a:many b;", 4, 15);
        refused("ask all a all b:at x c;", 4, 21);
        refused("ask all a:reach x c;", 4, 18);
        refused("ask all a:next b a;", 4, 15);
        refused("ask all a:next a b;", 4, 17);
        refused("ask all a:same c a;", 4, 15);
        refused("ask all a:same a c;", 4, 17);
        // what another formula told doesn't count
        refused("ask all a all b:many b;ask all a:many b;", 4, 38);
    }

    private void fault4ForTooFew() {
        refused("ask:not;", 4, 4);
        refused("ask all a:not;", 4, 10);
        refused("ask all a:and;", 4, 10);
        refused("ask all a:or;", 4, 10);
        refused("ask all a:many a and;", 4, 17);
        refused("ask all a:many a or;", 4, 17);
        refused("ask all a:many a many a and and;", 4, 28);
        refused("ask all a:many a many a or or;", 4, 27);
        refused("ask all a:many a not and;", 4, 21);
        taken("ask all a:many a not;", 1);
        taken("ask all a:many a many a and;", 1);
        taken("ask all a:many a many a or;", 1);
        // the heap is empty again for each formula
        refused("ask all a:many a;ask all a:not;", 4, 27);
    }

    private void fault4ForTooMany() {
        refused("ask all a:many a many a;", 4, 23);
        refused("ask all a:many a many a many a and  ;", 4, 36);
        refused("ask all a:" + "many a ".repeat(12) + ";", 4, 94);
        taken("ask all a:many a;", 1);
        taken("ask all a:many a many a many a and and;", 1);
    }

    private void fault5() {
        taken("node;".repeat(6), 6);
        refused("node;".repeat(7), 5, 30);
        refused("many;".repeat(6) + " many;", 5, 31);
        refused("node;".repeat(6) + "many", 5, 30);
        taken("ask all a:many a;".repeat(4), 4);
        refused("ask all a:many a;".repeat(5), 5, 68);
        refused("ask all a:many a;".repeat(4) + "  ask", 5, 70);
        String twelve = "ask all a:many a" + " not".repeat(11);
        taken(twelve + ";", 1);
        for (String item : "at reach next same many not".split(" ")) {
            refused(twelve + " " + item, 5, twelve.length() + 1);
        }
        String two = "ask all a:many a many a" + " not".repeat(10);
        refused(two + " and;", 5, two.length() + 1);
        refused(two + " or;", 5, two.length() + 1);
        // what is no item is none too many
        refused(twelve + " x", 2, twelve.length() + 1);
    }

    private void fault6() {
        refused("at x 0;", 6, 7);
        refused("at x 0 maybe;  ", 6, 15);
        refused("node;at x 1;", 6, 12);
        refused("node;next 0 1;", 6, 14);
        refused("node;next 1 0;", 6, 14);
        refused("node;node;node;node;node;at z 5;", 6, 32);
        refused("at y 1;node;", 6, 12);
        // one that is there, told behind it, does not make up for it
        refused("node;at x 1;at x 0;", 6, 19);
        taken("at x 0;node;", 2);
        taken("at x 5;next 5 5;" + "node;".repeat(6), 8);
    }
}
