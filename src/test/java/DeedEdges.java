import java.math.BigInteger;

/** Promises 17 and 22: deeds, one at a time and by a seed. */
final class DeedEdges {
    /** x is at 0, y maybe at 1 and 2, z at 1, which is many. */
    private static final String SHAPE = "node;many;node;at x 0;at y 1 maybe;at y 2 maybe;at z 1;"
        + "next 0 1;next 0 2 maybe;next 1 2 maybe;next 2 0;";
    private static final int[] SEEDS = {0, 1, -1, 2, 7, 12345, -12345, 65535, 65536, 1 << 30, Integer.MAX_VALUE,
        Integer.MIN_VALUE, Integer.MAX_VALUE - 1, Integer.MIN_VALUE + 1};

    private final Edges e;

    DeedEdges(Edges edges) {
        e = edges;
    }

    void all() {
        e.sentence(17, "DEEDS, by all as it was ahead of them:", this::asItWasAhead);
        e.sentence(17, "0 V becomes nothing: AT of V are no.", this::becomesNothing);
        e.sentence(17, "1 V becomes W: AT of V are those of W.", this::becomesOther);
        e.sentence(17, "2 V becomes what W leads to: AT of V and j is OR over i of AND of AT of W and i, NEXT of i and j.",
            this::becomesWhatItLeadsTo);
        e.sentence(17, "3 V leads to nothing: NEXT of i and j is AND of it and NOT of AT of V and i.", this::leadsToNothing);
        e.sentence(17, "4 V leads to W: that, OR AND of AT of V and i, AT of W and j.", this::leadsToOther);
        e.sentence(17, "5 V becomes new: a NODE more behind all others, not MANY; AT of V is yes there, no elsewhere; "
            + "its NEXTS are no.", this::becomesNew);
        e.sentence(17, "A DEED (kind 0 to 5) with VARIABLES v, w (w of 0, 3, 5 is not looked at):", this::notLookedAt);
        e.sentence(17, "HELD ahead of it of W (kind 2), of V (3, 4), else yes.", this::heldAhead);
        e.sentence(17, "BAD;", this::badDeeds);
        e.sentence(17, "FULL: 5 with 6 NODES.", this::fullDeeds);
        e.sentence(22, "By a seed, n DEEDS (1 to 20):", this::runsOfLength);
        e.sentence(22, "for each the seed becomes seed times 1103515245 and 12345;", this::seedsThatWrap);
        e.sentence(22, "bits 16 to 30 of it are got:", this::bitsThatAreGot);
        e.sentence(22, "kind got modulo 6, v got by 8 (down) modulo 3, w got by 32 (down) modulo 3", this::partsOfGot);
        e.sentence(22, "(one that is FULL is left out): how many were done.", this::fullOnesAreLeftOut);
        e.sentence(22, "BAD.", this::badRuns);
    }

    private void did(String text, int kind, int v, int w, String shape) {
        String call = "deed(" + kind + ", " + v + ", " + w + ")";
        Calls x = Calls.told(text);
        x.deed(kind, v, w);
        e.shape(call + " of " + text, shape, x);
    }

    private void asItWasAhead() {
        // one step along a chain, not to its end
        String chain = "node;node;node;at x 0;next 0 1;next 1 2;next 2 0;";
        did(chain, 2, 0, 0, "000|020|000|000|020 002 200");
        String back = "node;node;node;at x 2;next 2 1;next 1 0;next 0 2;";
        did(back, 2, 0, 0, "000|020|000|000|002 200 020");
        // where a variable is at several, all of them step at once
        did("node;node;node;at x 0;at x 1 maybe;next 0 1;next 1 2;", 2, 0, 0, "000|021|000|000|020 002 000");
        did("node;node;at y 0;at y 1 maybe;next 0 1;next 1 0;", 4, 1, 1, "00|00|21|00|21 11");
    }

    private void becomesNothing() {
        did(SHAPE, 0, 0, 0, "010|000|011|020|021 001 200");
        did(SHAPE, 0, 1, 0, "010|200|000|020|021 001 200");
        did(SHAPE, 0, 2, 0, "010|200|011|000|021 001 200");
        did("node;", 0, 2, 0, "0|0|0|0|0");
        did("", 0, 0, 0, "||||");
    }

    private void becomesOther() {
        did(SHAPE, 1, 0, 1, "010|011|011|020|021 001 200");
        did(SHAPE, 1, 2, 0, "010|200|011|200|021 001 200");
        did(SHAPE, 1, 1, 1, "010|200|011|020|021 001 200");
        did("node;at x 0;", 1, 0, 2, "0|0|0|0|0");
        did("", 1, 0, 1, "||||");
    }

    /** Each truth of at with each truth of next. */
    private void becomesWhatItLeadsTo() {
        for (int at = 0; at <= 2; at++) {
            for (int next = 0; next <= 2; next++) {
                Calls x = Calls.told("node;node;at z 0;");
                x.place(1, 0, at);
                x.lead(0, 1, next);
                x.deed(2, 2, 1);
                e.shape("deed(2, 2, 1)", "00|00|" + at + "0|0" + Math.min(at, next) + "|0" + next + " 00", x);
            }
        }
        did(SHAPE, 2, 0, 1, "010|101|011|020|021 001 200");
        did(SHAPE, 2, 2, 0, "010|200|011|021|021 001 200");
        did("node;at x 0;at y 0;", 2, 0, 1, "0|0|2|0|0");
        did("", 2, 0, 1, "||||");
    }

    private void leadsToNothing() {
        int[][] want = {{0, 0, 0}, {1, 1, 0}, {2, 1, 0}};
        for (int next = 0; next <= 2; next++) {
            for (int at = 0; at <= 2; at++) {
                Calls x = Calls.told("node;node;next 1 0;");
                x.place(2, 0, at);
                x.lead(0, 0, next);
                x.lead(0, 1, next);
                x.deed(3, 2, 0);
                String row = "" + want[next][at] + want[next][at];
                e.shape("deed(3, 2, 0)", "00|00|00|" + at + "0|" + row + " 20", x);
            }
        }
        did("", 3, 0, 0, "||||");
    }

    private void leadsToOther() {
        int[][] left = {{0, 0, 0}, {1, 1, 0}, {2, 1, 0}};
        for (int next = 0; next <= 2; next++) {
            for (int p = 0; p < 9; p++) {
                int at = p / 3;
                int other = p % 3;
                Calls x = Calls.told("node;node;next 1 0;");
                x.place(0, 0, at);
                x.place(1, 1, other);
                x.lead(0, 0, next);
                x.lead(0, 1, next);
                x.deed(4, 0, 1);
                int to = Math.max(left[next][at], Math.min(at, other));
                e.shape("deed(4, 0, 1)", "00|" + at + "0|0" + other + "|00|" + left[next][at] + to + " 20", x);
            }
        }
        did("node;at x 0;", 4, 0, 0, "0|2|0|0|2");
        did("node;at x 0;next 0 0;", 4, 0, 1, "0|2|0|0|0");
        did("", 4, 0, 1, "||||");
    }

    private void becomesNew() {
        did("", 5, 0, 0, "0|2|0|0|0");
        did(SHAPE, 5, 1, 0, "0100|2000|0002|0200|0210 0010 2000 0000");
        Calls x = Edges.sixNodes();
        x.place(0, 5, 2);
        x.many(5, 1);
        x.lead(5, 5, 2);
        x.lead(5, 1, 1);
        x.lead(2, 5, 2);
        x.lose(5);
        x.deed(5, 2, 0);
        e.shape("deed(5, 2, 0), the 6th, where one was lost",
            "010100|010000|000000|000002|020000 000000 000000 000000 000000 000000", x);
    }

    private void notLookedAt() {
        for (int w : Edges.outside(0, 2)) {
            for (int kind : new int[] {0, 3, 5}) {
                Calls one = Calls.told(SHAPE);
                Calls other = Calls.told(SHAPE);
                String call = "deed(" + kind + ", 2, " + w + ")";
                e.due(call, other.deed(kind, 2, 0), one.deed(kind, 2, w));
                e.shape(call, other.shape(), one);
            }
        }
        Calls x = Calls.told(SHAPE);
        for (int kind = 0; kind <= 5; kind++) {
            e.due("deed(" + kind + ", 0, 2) is one", 1, x.deed(kind, 0, 2) >= 0 ? 1 : 0);
        }
    }

    private void heldAhead() {
        // by deeds that take away what was held, so that ahead and behind differ
        answers(0, 0, 1, 2);
        answers(1, 0, 1, 2);
        answers(1, 1, 0, 2);
        answers(2, 0, 0, 2);
        answers(2, 1, 1, 1);
        answers(2, 2, 2, 0);
        answers(2, 0, 2, 0);
        answers(2, 2, 0, 2);
        answers(3, 0, 2, 2);
        answers(3, 1, 0, 1);
        answers(3, 2, 0, 0);
        answers(4, 0, 2, 2);
        answers(4, 1, 0, 1);
        answers(4, 2, 0, 0);
        answers(5, 2, 2, 2);
        Calls none = new Calls();
        int[] want = {2, 2, 0, 0, 0, 2};
        for (int kind = 0; kind <= 5; kind++) {
            e.due("deed(" + kind + ", 0, 1) with no nodes", want[kind], none.deed(kind, 0, 1));
        }
    }

    /** x is held, y maybe, z not. */
    private void answers(int kind, int v, int w, int want) {
        String call = "deed(" + kind + ", " + v + ", " + w + ")";
        e.due(call, want, Calls.told("node;node;at x 0;at y 1 maybe;").deed(kind, v, w));
    }

    private void badDeeds() {
        for (int kind : Edges.outside(0, 5)) {
            e.refused("deed(" + kind + ", 0, 1)", FoldedHeaps.BAD, x -> x.deed(kind, 0, 1));
        }
        for (int out : Edges.outside(0, 2)) {
            for (int kind = 0; kind <= 5; kind++) {
                int k = kind;
                e.refused("deed(" + k + ", " + out + ", 1)", FoldedHeaps.BAD, x -> x.deed(k, out, 1));
            }
            for (int kind : new int[] {1, 2, 4}) {
                e.refused("deed(" + kind + ", 0, " + out + ")", FoldedHeaps.BAD, x -> x.deed(kind, 0, out));
            }
        }
        e.refused(Edges::sixNodes, "deed(5, 3, 0) with 6 nodes", FoldedHeaps.BAD, x -> x.deed(5, 3, 0));
    }

    private void fullDeeds() {
        for (int v = 0; v <= 2; v++) {
            int at = v;
            e.refused(Edges::sixNodes, "deed(5, " + v + ", 0) with 6 nodes", FoldedHeaps.FULL, x -> x.deed(5, at, 0));
        }
        Calls x = Edges.sixNodes();
        for (int kind = 0; kind <= 4; kind++) {
            e.due("deed(" + kind + ", 0, 1) is done with 6 nodes", 1, x.deed(kind, 0, 1) >= 0 ? 1 : 0);
        }
        x.lose(3);
        e.due("deed(5, 0, 0) with 5 nodes", 2, x.deed(5, 0, 0));
        e.due("deed(5, 0, 0) with 6 nodes", FoldedHeaps.FULL, x.deed(5, 0, 0));
    }

    /** What is got for the n-th deed of a seed, by numbers that never wrap. */
    private static int got(int seed, int n) {
        BigInteger grown = BigInteger.valueOf(seed);
        for (int i = 0; i <= n; i++) {
            grown = grown.multiply(BigInteger.valueOf(1103515245)).add(BigInteger.valueOf(12345));
        }
        return grown.shiftRight(16).mod(BigInteger.valueOf(1 << 15)).intValue();
    }

    /** The deeds of a seed, one at a time: how many were done. */
    private static int doOneByOne(Calls x, int seed, int n) {
        int done = 0;
        for (int i = 0; i < n; i++) {
            int got = got(seed, i);
            done += x.deed(got % 6, got / 8 % 3, got / 32 % 3) >= 0 ? 1 : 0;
        }
        return done;
    }

    private void ran(String text, int seed, int n) {
        Calls one = Calls.told(text);
        Calls other = Calls.told(text);
        String call = "run(" + seed + ", " + n + ")";
        e.due(call, doOneByOne(other, seed, n), one.run(seed, n));
        e.shape(call, other.shape(), one);
    }

    private void runsOfLength() {
        for (int n = 1; n <= 20; n++) {
            ran(SHAPE, 77, n);
        }
        e.due("run(77, 1), one alone", 1, Calls.told(SHAPE).run(77, 1));
        e.due("run(77, 20) with no nodes at first is no refusal", 1, new Calls().run(77, 20) > 0 ? 1 : 0);
    }

    private void seedsThatWrap() {
        for (int seed : SEEDS) {
            ran(SHAPE, seed, 20);
            ran("", seed, 20);
        }
    }

    /** Seeds for which bit 31, if it were got too, or bit 30, if it were not, would make another deed. */
    private void bitsThatAreGot() {
        int told = 0;
        for (int seed = 0; seed < 4000 && told < 40; seed++) {
            int grown = seed * 1103515245 + 12345;
            int right = (grown >>> 16) & 0x7fff;
            boolean tells = isOtherDeed(right, grown >>> 16) && isOtherDeed(right, (grown >>> 16) & 0x3fff)
                && isOtherDeed(right, (grown >>> 15) & 0x7fff) && isOtherDeed(right, (grown >>> 17) & 0x7fff);
            if (tells) {
                told++;
                ran(SHAPE, seed, 1);
            }
        }
        e.due("seeds that tell it", 40, told);
    }

    private static boolean isOtherDeed(int got, int other) {
        return !shapeBehind(got).equals(shapeBehind(other));
    }

    private static String shapeBehind(int got) {
        Calls x = Calls.told(SHAPE);
        x.deed(got % 6, got / 8 % 3, got / 32 % 3);
        return x.shape();
    }

    /** One seed for each of the 54 deeds. */
    private void partsOfGot() {
        boolean[] met = new boolean[54];
        int found = 0;
        for (int seed = 1; seed < 100_000 && found < met.length; seed++) {
            int got = got(seed, 0);
            int deed = got % 6 * 9 + got / 8 % 3 * 3 + got / 32 % 3;
            if (!met[deed]) {
                met[deed] = true;
                found++;
                ran(SHAPE, seed, 1);
            }
        }
        e.due("deeds that were met", 54, found);
    }

    private void fullOnesAreLeftOut() {
        String six = "node;many;node;node;node;node;at x 0;at y 1 maybe;next 0 1;next 1 5;";
        String five = "node;many;node;node;node;at x 0;at y 1 maybe;next 0 1;";
        int leftOut = 0;
        for (int seed : SEEDS) {
            ran(six, seed, 20);
            ran(five, seed, 20);
            int news = 0;
            for (int i = 0; i < 20; i++) {
                news += got(seed, i) % 6 == 5 ? 1 : 0;
            }
            leftOut += news;
            e.due("run(" + seed + ", 20) with 6 nodes", 20 - news, Calls.told(six).run(seed, 20));
            e.due("run(" + seed + ", 20) with 5 nodes", 20 - Math.max(0, news - 1), Calls.told(five).run(seed, 20));
        }
        e.due("some were left out", 1, leftOut > 0 ? 1 : 0);
        int seed = 0;
        while (got(seed, 0) % 6 != 5) {
            seed++;
        }
        int only = seed;
        e.refused(Edges::sixNodes, "run(" + seed + ", 1) of one that is full", 0, x -> x.run(only, 1));
    }

    private void badRuns() {
        for (int n : Edges.outside(1, 20)) {
            e.refused("run(7, " + n + ")", FoldedHeaps.BAD, x -> x.run(7, n));
        }
        e.refused("run(7, -20)", FoldedHeaps.BAD, x -> x.run(7, -20));
    }
}
