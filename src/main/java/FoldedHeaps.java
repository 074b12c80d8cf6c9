import java.util.Arrays;

/**
 * Linked things told by tables of no, maybe and yes, as ../shared/DOC.md promises.
 * Every row is made once, with the object, so that calls make nothing new.
 */
public final class FoldedHeaps {
    public static final int BAD = -1, STATE = -2, FULL = -3, NONE = -4;

    private static final int NO = 0, MAYBE = 1, YES = 2;
    private static final int MOST_NODES = 6, VARIABLES = 3, MOST_FORMULAS = 4;
    private static final int MOST_LETTERS = 3, MOST_ITEMS = 12;
    private static final int TAPE_BYTES = 320;
    private static final int IMAGES = 2, SHEETS = 4, LANES = 3, MOST_CELLS = 40;
    private static final int MOST_RUN = 20, MOST_READ = 13;

    private static final int ITEM_AT = 0, ITEM_REACH = 1, ITEM_NEXT = 2, ITEM_SAME = 3;
    private static final int ITEM_MANY = 4, ITEM_NOT = 5, ITEM_AND = 6, ITEM_OR = 7;

    private static final int TO_NOTHING = 0, TO_OTHER = 1, TO_WHAT_IT_LEADS = 2;
    private static final int LEAD_TO_NOTHING = 3, LEAD_TO_OTHER = 4, TO_NEW = 5;

    private static final int FAULT_TOKEN = 1, FAULT_STAND = 2, FAULT_BOUNDS = 3;
    private static final int FAULT_SENSE = 4, FAULT_ROOM = 5, FAULT_NO_NODE = 6;
    private static final int FOUND_NULL = 1, FOUND_INDEX = 2, FOUND_CAST = 3, FOUND_SIZE = 4;

    private final Tape tape = new Tape();
    private final Reader reader = new Reader();
    private Told told = new Told();
    private int textFault;
    private final Shape[] images = new Shape[IMAGES];
    private final boolean[] kept = new boolean[IMAGES];
    private final Sheet[] sheets = new Sheet[SHEETS];
    private int readFault;
    private final Shape before = new Shape();
    private final Deeds deeds = new Deeds();
    private final Folding folding = new Folding();
    private final Sharpening sharpening = new Sharpening();
    private final Splitting splitting = new Splitting();
    private final Cover cover = new Cover();

    public FoldedHeaps() {
        for (int k = 0; k < IMAGES; k++) {
            images[k] = new Shape();
        }
        for (int k = 0; k < SHEETS; k++) {
            sheets[k] = new Sheet();
        }
    }

    // ---- the text, what there is

    public int feed(int c) {
        if (c < 0 || c > 127) {
            return BAD;
        }
        return tape.put((byte) c) ? tape.length : FULL;
    }

    public int end(int n) {
        if (n < 0 || n > tape.length) {
            return BAD;
        }
        int had = tape.length;
        tape.length = n;
        return had;
    }

    public int text() {
        boolean taken = reader.takes(tape);
        tape.length = 0;
        textFault = reader.fault;
        if (!taken) {
            return -10 - reader.place;
        }
        Told old = told;
        told = reader.draft;
        reader.draft = old;
        for (int k = 0; k < IMAGES; k++) {
            kept[k] = false;
        }
        return reader.lines;
    }

    public int fault() {
        return textFault;
    }

    public int rule(int what) {
        Shape shape = told.shape;
        switch (what) {
            case 0: return shape.size;
            case 1: return told.formulas;
            case 2: return shape.manys();
            case 3: return shape.atsThatAre(MAYBE);
            case 4: return shape.nextsThatAre(MAYBE);
            case 5: return shape.atsThatAre(YES);
            case 6: return shape.nextsThatAre(YES);
            case 7: return shape.isHeap() ? 1 : 0;
            default: return BAD;
        }
    }

    public int node(int i, int what) {
        Shape shape = told.shape;
        if (!shape.has(i) || what < 0 || what > 2 * VARIABLES) {
            return BAD;
        }
        if (what == 0) {
            return shape.many[i] ? 1 : 0;
        }
        if (what <= VARIABLES) {
            return shape.at[what - 1][i];
        }
        shape.trace();
        return shape.reach[what - 1 - VARIABLES][i];
    }

    public int pair(int i, int j, int what) {
        Shape shape = told.shape;
        if (!shape.has(i) || !shape.has(j)) {
            return BAD;
        }
        switch (what) {
            case 0:
                return shape.next[i][j];
            case 1:
                shape.trace();
                return shape.way[i][j];
            case 2:
                return shape.sameness(i, j);
            default:
                return BAD;
        }
    }

    public int held(int v) {
        return isVariable(v) ? told.shape.holding(v) : BAD;
    }

    public int ask(int k) {
        if (k < 0 || k >= told.formulas) {
            return BAD;
        }
        told.shape.trace();
        return told.formula[k].worth(told.shape);
    }

    public int formula(int k, int what) {
        if (k < 0 || k >= told.formulas) {
            return BAD;
        }
        Formula asked = told.formula[k];
        switch (what) {
            case 0: return asked.letters;
            case 1: return asked.allBits();
            case 2: return asked.items;
            case 3: return asked.highest;
            default: return BAD;
        }
    }

    // ---- what is changed by hand

    public int add(int many) {
        if (!isSwitch(many)) {
            return BAD;
        }
        if (told.shape.isFull()) {
            return FULL;
        }
        told.shape.append(many == 1);
        return told.shape.size;
    }

    public int lose(int i) {
        if (!told.shape.has(i)) {
            return BAD;
        }
        told.shape.drop(i);
        return told.shape.size;
    }

    public int many(int i, int on) {
        if (!told.shape.has(i) || !isSwitch(on)) {
            return BAD;
        }
        int was = told.shape.many[i] ? 1 : 0;
        told.shape.many[i] = on == 1;
        return was;
    }

    public int place(int v, int i, int truth) {
        if (!isVariable(v) || !told.shape.has(i) || !isTruth(truth)) {
            return BAD;
        }
        int was = told.shape.at[v][i];
        told.shape.at[v][i] = truth;
        return was;
    }

    public int lead(int i, int j, int truth) {
        if (!told.shape.has(i) || !told.shape.has(j) || !isTruth(truth)) {
            return BAD;
        }
        int was = told.shape.next[i][j];
        told.shape.next[i][j] = truth;
        return was;
    }

    // ---- deeds, folding

    public int deed(int kind, int v, int w) {
        return deeds.perform(told.shape, kind, v, w);
    }

    public int fold(int mode) {
        if (!isSwitch(mode)) {
            return BAD;
        }
        folding.apply(told.shape, mode == 1);
        return told.shape.size;
    }

    public int sharpen() {
        return sharpening.apply(told.shape);
    }

    public int ways(int v) {
        return isVariable(v) ? splitting.number(told.shape, v) : BAD;
    }

    public int split(int v, int k) {
        return isVariable(v) ? splitting.apply(told.shape, v, k) : BAD;
    }

    public int run(int seed, int n) {
        if (n < 1 || n > MOST_RUN) {
            return BAD;
        }
        int done = 0;
        int grown = seed;
        for (int i = 0; i < n; i++) {
            grown = grown * 1103515245 + 12345;
            int got = (grown >>> 16) & 0x7fff;
            int answer = deeds.perform(told.shape, got % 6, got / 8 % VARIABLES, got / 32 % VARIABLES);
            if (answer >= 0) {
                done++;
            }
        }
        return done;
    }

    // ---- images, sheets

    public int keep(int k) {
        if (!isImage(k)) {
            return BAD;
        }
        int was = kept[k] ? 1 : 0;
        images[k].copy(told.shape);
        kept[k] = true;
        return was;
    }

    public int back(int k) {
        if (!isImage(k)) {
            return BAD;
        }
        if (!kept[k]) {
            return STATE;
        }
        told.shape.copy(images[k]);
        return told.shape.size;
    }

    public int covers(int k, int what) {
        if (!isImage(k) || !isSwitch(what)) {
            return BAD;
        }
        if (!kept[k]) {
            return STATE;
        }
        boolean does = what == 0
            ? cover.holds(told.shape, images[k])
            : cover.holds(images[k], told.shape);
        return does ? 1 : 0;
    }

    public int sheet(int k, int lane, int n) {
        if (!isSheet(k) || !isLane(lane) || n > MOST_CELLS) {
            return BAD;
        }
        if (n < 0) {
            return -10 - FOUND_SIZE;
        }
        sheets[k].renew(lane, n);
        return 1;
    }

    public int lay(int k, int i, int v) {
        if (!isSheet(k)) {
            return BAD;
        }
        int found = sheets[k].findTaken(sheets[k].lane, i, 1);
        if (found != 0) {
            return -10 - found;
        }
        sheets[k].put(i, v);
        return 1;
    }

    public int read(int k, int lane, int f, int n) {
        if (!isSheet(k) || !isLane(lane) || n < 0 || n > MOST_READ) {
            return BAD;
        }
        Sheet from = sheets[k];
        before.copy(told.shape);
        int came = 0;
        int found = 0;
        for (int i = 0; i < n && found == 0; i++) {
            // only the first place can be far out: a fault there ends the loop
            int cell = f + 3 * i;
            found = from.findTaken(lane, cell, 3);
            if (found == 0) {
                int answer = deeds.perform(told.shape, from.cells[cell], from.cells[cell + 1], from.cells[cell + 2]);
                if (answer < 0) {
                    told.shape.copy(before);
                    return -20 - i;
                }
                came++;
            }
        }
        readFault = found;
        return came;
    }

    public int torn() {
        return readFault;
    }

    public int count(int what) {
        switch (what) {
            case 0: return imagesKept();
            case 1: return tape.length;
            case 2: return sheets[0].isLaid ? sheets[0].size : NONE;
            case 3: return told.itemsOfAll();
            default: return BAD;
        }
    }

    private int imagesKept() {
        int found = 0;
        for (int k = 0; k < IMAGES; k++) {
            if (kept[k]) {
                found++;
            }
        }
        return found;
    }

    private static boolean isVariable(int v) {
        return v >= 0 && v < VARIABLES;
    }

    private static boolean isTruth(int truth) {
        return truth >= NO && truth <= YES;
    }

    private static boolean isSwitch(int on) {
        return on == 0 || on == 1;
    }

    private static boolean isImage(int k) {
        return k >= 0 && k < IMAGES;
    }

    private static boolean isSheet(int k) {
        return k >= 0 && k < SHEETS;
    }

    private static boolean isLane(int lane) {
        return lane >= 0 && lane < LANES;
    }

    /** The nodes and their tables. What lies behind the last node is always no, so a new node needs no cleaning. */
    private static final class Shape {
        int size;
        final boolean[] many = new boolean[MOST_NODES];
        final int[][] at = new int[VARIABLES][MOST_NODES];
        final int[][] next = new int[MOST_NODES][MOST_NODES];
        // as the latest trace() found them
        final int[][] way = new int[MOST_NODES][MOST_NODES];
        final int[][] reach = new int[VARIABLES][MOST_NODES];

        boolean has(int i) {
            return i >= 0 && i < size;
        }

        boolean isFull() {
            return size >= MOST_NODES;
        }

        void clear() {
            size = 0;
            for (int v = 0; v < VARIABLES; v++) {
                Arrays.fill(at[v], NO);
            }
            for (int i = 0; i < MOST_NODES; i++) {
                many[i] = false;
                Arrays.fill(next[i], NO);
            }
        }

        void copy(Shape other) {
            size = other.size;
            for (int v = 0; v < VARIABLES; v++) {
                System.arraycopy(other.at[v], 0, at[v], 0, MOST_NODES);
            }
            for (int i = 0; i < MOST_NODES; i++) {
                many[i] = other.many[i];
                System.arraycopy(other.next[i], 0, next[i], 0, MOST_NODES);
            }
        }

        void append(boolean isMany) {
            if (size < MOST_NODES) {
                many[size] = isMany;
                size++;
            }
        }

        void drop(int i) {
            if (!has(i)) {
                return;
            }
            for (int v = 0; v < VARIABLES; v++) {
                closeGap(at[v], i);
            }
            for (int j = 0; j < MOST_NODES; j++) {
                closeGap(next[j], i);
            }
            for (int j = i; j < MOST_NODES - 1; j++) {
                many[j] = many[j + 1];
                System.arraycopy(next[j + 1], 0, next[j], 0, MOST_NODES);
            }
            many[MOST_NODES - 1] = false;
            Arrays.fill(next[MOST_NODES - 1], NO);
            size--;
        }

        private static void closeGap(int[] row, int i) {
            System.arraycopy(row, i + 1, row, i, MOST_NODES - 1 - i);
            row[MOST_NODES - 1] = NO;
        }

        int sameness(int i, int j) {
            if (i != j) {
                return NO;
            }
            return many[i] ? MAYBE : YES;
        }

        int holding(int v) {
            int most = NO;
            for (int i = 0; i < size; i++) {
                most = Math.max(most, at[v][i]);
            }
            return most;
        }

        int manys() {
            int found = 0;
            for (int i = 0; i < size; i++) {
                if (many[i]) {
                    found++;
                }
            }
            return found;
        }

        int atsThatAre(int truth) {
            int found = 0;
            for (int v = 0; v < VARIABLES; v++) {
                found += cellsThatAre(at[v], truth);
            }
            return found;
        }

        int nextsThatAre(int truth) {
            int found = 0;
            for (int i = 0; i < size; i++) {
                found += cellsThatAre(next[i], truth);
            }
            return found;
        }

        private int cellsThatAre(int[] row, int truth) {
            int found = 0;
            for (int i = 0; i < size; i++) {
                if (row[i] == truth) {
                    found++;
                }
            }
            return found;
        }

        boolean isHeap() {
            boolean plain = manys() == 0 && atsThatAre(MAYBE) == 0 && nextsThatAre(MAYBE) == 0;
            for (int v = 0; v < VARIABLES && plain; v++) {
                plain = cellsThatAre(at[v], YES) <= 1;
            }
            for (int i = 0; i < size && plain; i++) {
                plain = cellsThatAre(next[i], YES) <= 1;
            }
            return plain;
        }

        /** Finds WAY of all pairs of nodes, REACH of all variables and nodes. */
        void trace() {
            for (int i = 0; i < size; i++) {
                System.arraycopy(next[i], 0, way[i], 0, MOST_NODES);
            }
            for (int over = 0; over < size; over++) {
                for (int i = 0; i < size; i++) {
                    for (int j = 0; j < size; j++) {
                        way[i][j] = Math.max(way[i][j], Math.min(way[i][over], way[over][j]));
                    }
                }
            }
            for (int v = 0; v < VARIABLES; v++) {
                for (int j = 0; j < size; j++) {
                    reach[v][j] = reaching(v, j);
                }
            }
        }

        private int reaching(int v, int j) {
            int most = NO;
            for (int i = 0; i < size; i++) {
                int comes = Math.max(sameness(i, j), way[i][j]);
                most = Math.max(most, Math.min(at[v][i], comes));
            }
            return most;
        }
    }

    /** A formula: letters by the order in which they were told, items that speak of them by that order. */
    private static final class Formula {
        int letters;
        final int[] letter = new int[MOST_LETTERS];
        final boolean[] hasAll = new boolean[MOST_LETTERS];
        int items;
        final int[] kind = new int[MOST_ITEMS];
        final int[] first = new int[MOST_ITEMS];
        final int[] second = new int[MOST_ITEMS];
        int height;
        int highest;
        private final int[] standsFor = new int[MOST_LETTERS];
        private final int[] heap = new int[MOST_ITEMS];

        void clear() {
            letters = 0;
            items = 0;
            height = 0;
            highest = 0;
        }

        /** The place of a letter among those told, or -1. */
        int placeOf(int which) {
            for (int p = 0; p < letters; p++) {
                if (letter[p] == which) {
                    return p;
                }
            }
            return -1;
        }

        void putLetter(int which, boolean all) {
            if (letters < MOST_LETTERS) {
                letter[letters] = which;
                hasAll[letters] = all;
                letters++;
            }
        }

        int allBits() {
            int bits = 0;
            for (int p = 0; p < letters; p++) {
                if (hasAll[p]) {
                    bits |= 1 << p;
                }
            }
            return bits;
        }

        boolean isFull() {
            return items >= MOST_ITEMS;
        }

        boolean hasEnoughFor(int which) {
            return height >= taken(which);
        }

        void putItem(int which, int one, int other) {
            int from = taken(which);
            if (isFull() || height < from) {
                return;
            }
            kind[items] = which;
            first[items] = one;
            second[items] = other;
            items++;
            height += 1 - from;
            highest = Math.max(highest, height);
        }

        private static int taken(int which) {
            if (which == ITEM_AND || which == ITEM_OR) {
                return 2;
            }
            return which == ITEM_NOT ? 1 : 0;
        }

        /** What it is worth in a shape that was traced. */
        int worth(Shape shape) {
            return worthFrom(shape, 0);
        }

        /** With the letters ahead of p standing for nodes. */
        private int worthFrom(Shape shape, int p) {
            if (p >= letters || p >= MOST_LETTERS) {
                return worthOfItems(shape);
            }
            int settled = hasAll[p] ? NO : YES;
            int worth = YES - settled;
            for (int i = 0; i < shape.size && worth != settled; i++) {
                standsFor[p] = i;
                int one = worthFrom(shape, p + 1);
                worth = hasAll[p] ? Math.min(worth, one) : Math.max(worth, one);
            }
            return worth;
        }

        private int worthOfItems(Shape shape) {
            int top = -1;
            for (int k = 0; k < items && k < MOST_ITEMS; k++) {
                int which = kind[k];
                // putItem let none come that takes more than there is
                if (top + 1 < taken(which)) {
                    return NO;
                }
                if (which == ITEM_NOT) {
                    heap[top] = YES - heap[top];
                } else if (which == ITEM_AND) {
                    top--;
                    heap[top] = Math.min(heap[top], heap[top + 1]);
                } else if (which == ITEM_OR) {
                    top--;
                    heap[top] = Math.max(heap[top], heap[top + 1]);
                } else {
                    top++;
                    heap[top] = truthOf(shape, which, first[k], second[k]);
                }
            }
            return heap[0];
        }

        private int truthOf(Shape shape, int which, int one, int other) {
            switch (which) {
                case ITEM_AT: return shape.at[one][standsFor[other]];
                case ITEM_REACH: return shape.reach[one][standsFor[other]];
                case ITEM_NEXT: return shape.next[standsFor[one]][standsFor[other]];
                case ITEM_SAME: return shape.sameness(standsFor[one], standsFor[other]);
                default: return shape.many[standsFor[one]] ? YES : NO;
            }
        }
    }

    /** All that a text tells. */
    private static final class Told {
        final Shape shape = new Shape();
        final Formula[] formula = new Formula[MOST_FORMULAS];
        int formulas;

        Told() {
            for (int k = 0; k < MOST_FORMULAS; k++) {
                formula[k] = new Formula();
            }
        }

        void clear() {
            shape.clear();
            formulas = 0;
        }

        int itemsOfAll() {
            int sum = 0;
            for (int k = 0; k < formulas; k++) {
                sum += formula[k].items;
            }
            return sum;
        }
    }

    /** The bytes that were fed, and the token that is read now; the next one is read only when this one is taken. */
    private static final class Tape {
        static final int AT_END = 0, NAME = 1, NUMBER = 2, SIGN = 3, WRONG = 4;

        private final byte[] bytes = new byte[TAPE_BYTES];
        int length;
        int token;
        int start;
        private int stop;

        boolean put(byte c) {
            if (length >= TAPE_BYTES) {
                return false;
            }
            bytes[length] = c;
            length++;
            return true;
        }

        void rewind() {
            stop = 0;
            advance();
        }

        void advance() {
            start = stop;
            while (start < length && bytes[start] == ' ') {
                start++;
            }
            stop = start;
            while (stop < length && bytes[stop] >= 'a' && bytes[stop] <= 'z') {
                stop++;
            }
            if (stop > start) {
                token = NAME;
                return;
            }
            while (stop < length && bytes[stop] >= '0' && bytes[stop] <= '9') {
                stop++;
            }
            if (stop > start) {
                token = stop - start > 2 ? WRONG : NUMBER;
                return;
            }
            if (start >= length) {
                token = AT_END;
                return;
            }
            stop = start + 1;
            token = bytes[start] == ';' || bytes[start] == ':' ? SIGN : WRONG;
        }

        boolean isSign(char sign) {
            return token == SIGN && bytes[start] == sign;
        }

        boolean isName(String word) {
            if (token != NAME || stop - start != word.length()) {
                return false;
            }
            for (int i = 0; i < word.length(); i++) {
                if (bytes[start + i] != word.charAt(i)) {
                    return false;
                }
            }
            return true;
        }

        /** Which of the three names of one letter, from that letter on, it is, or -1. */
        int oneOfThree(char from) {
            if (token != NAME || stop - start != 1) {
                return -1;
            }
            int which = bytes[start] - from;
            return which >= 0 && which < 3 ? which : -1;
        }

        /** The number it is, or -1. */
        int number() {
            if (token != NUMBER) {
                return -1;
            }
            int value = 0;
            for (int p = start; p < stop; p++) {
                value = value * 10 + (bytes[p] - '0');
            }
            return value;
        }
    }

    /** Reads a text into a draft; what takes a token answers false or -1 at a fault, which ends the reading. */
    private static final class Reader {
        Told draft = new Told();
        private int furthestNode;
        int fault;
        int place;
        int lines;

        boolean takes(Tape tape) {
            draft.clear();
            furthestNode = -1;
            fault = 0;
            place = 0;
            tape.rewind();
            for (lines = 0; lines < TAPE_BYTES && tape.token != Tape.AT_END; lines++) {
                if (!takeLine(tape)) {
                    return false;
                }
            }
            return furthestNode < draft.shape.size || refuse(tape, FAULT_NO_NODE);
        }

        private boolean refuse(Tape tape, int why) {
            fault = why;
            place = tape.start;
            return false;
        }

        private boolean refuseToken(Tape tape) {
            fault = tape.token == Tape.WRONG ? FAULT_TOKEN : FAULT_STAND;
            place = tape.start;
            return false;
        }

        private boolean takeLine(Tape tape) {
            if (tape.isName("node")) {
                return takeNode(tape, false);
            }
            if (tape.isName("many")) {
                return takeNode(tape, true);
            }
            if (tape.isName("at")) {
                return takeAt(tape);
            }
            if (tape.isName("next")) {
                return takeNext(tape);
            }
            if (tape.isName("ask")) {
                return takeAsk(tape);
            }
            return refuseToken(tape);
        }

        private boolean takeNode(Tape tape, boolean isMany) {
            if (draft.shape.isFull()) {
                return refuse(tape, FAULT_ROOM);
            }
            draft.shape.append(isMany);
            tape.advance();
            return takeSign(tape, ';');
        }

        private boolean takeAt(Tape tape) {
            tape.advance();
            int v = takeVariable(tape);
            if (v < 0) {
                return false;
            }
            int i = takeNodeNumber(tape);
            if (i < 0) {
                return false;
            }
            draft.shape.at[v][i] = takeTruth(tape);
            return takeSign(tape, ';');
        }

        private boolean takeNext(Tape tape) {
            tape.advance();
            int i = takeNodeNumber(tape);
            if (i < 0) {
                return false;
            }
            int j = takeNodeNumber(tape);
            if (j < 0) {
                return false;
            }
            draft.shape.next[i][j] = takeTruth(tape);
            return takeSign(tape, ';');
        }

        private boolean takeAsk(Tape tape) {
            if (draft.formulas >= MOST_FORMULAS) {
                return refuse(tape, FAULT_ROOM);
            }
            Formula formula = draft.formula[draft.formulas];
            formula.clear();
            draft.formulas++;
            tape.advance();
            // a letter too many is one told a second time, an item too many finds the formula full: both end it
            for (int k = 0; k <= MOST_LETTERS && (tape.isName("all") || tape.isName("some")); k++) {
                if (!tellLetter(tape, formula)) {
                    return false;
                }
            }
            if (!takeSign(tape, ':')) {
                return false;
            }
            for (int k = 0; k <= MOST_ITEMS && (k == 0 || !tape.isSign(';')); k++) {
                if (!takeItem(tape, formula)) {
                    return false;
                }
            }
            return formula.height == 1 ? takeSign(tape, ';') : refuse(tape, FAULT_SENSE);
        }

        private boolean tellLetter(Tape tape, Formula formula) {
            boolean all = tape.isName("all");
            tape.advance();
            int which = tape.oneOfThree('a');
            if (which < 0) {
                return refuseToken(tape);
            }
            if (formula.placeOf(which) >= 0) {
                return refuse(tape, FAULT_SENSE);
            }
            formula.putLetter(which, all);
            tape.advance();
            return true;
        }

        private boolean takeItem(Tape tape, Formula formula) {
            int kind = itemKind(tape);
            if (kind < 0) {
                return refuseToken(tape);
            }
            if (formula.isFull()) {
                return refuse(tape, FAULT_ROOM);
            }
            if (!formula.hasEnoughFor(kind)) {
                return refuse(tape, FAULT_SENSE);
            }
            tape.advance();
            int first = 0;
            int second = 0;
            if (kind == ITEM_AT || kind == ITEM_REACH) {
                first = takeVariable(tape);
            } else if (kind == ITEM_NEXT || kind == ITEM_SAME || kind == ITEM_MANY) {
                first = takeLetter(tape, formula);
            }
            if (first >= 0 && kind < ITEM_MANY) {
                second = takeLetter(tape, formula);
            }
            if (first < 0 || second < 0) {
                return false;
            }
            formula.putItem(kind, first, second);
            return true;
        }

        private static int itemKind(Tape tape) {
            if (tape.isName("at")) {
                return ITEM_AT;
            }
            if (tape.isName("reach")) {
                return ITEM_REACH;
            }
            if (tape.isName("next")) {
                return ITEM_NEXT;
            }
            if (tape.isName("same")) {
                return ITEM_SAME;
            }
            if (tape.isName("many")) {
                return ITEM_MANY;
            }
            if (tape.isName("not")) {
                return ITEM_NOT;
            }
            if (tape.isName("and")) {
                return ITEM_AND;
            }
            return tape.isName("or") ? ITEM_OR : -1;
        }

        private int takeVariable(Tape tape) {
            int v = tape.oneOfThree('x');
            if (v < 0) {
                refuseToken(tape);
            } else {
                tape.advance();
            }
            return v;
        }

        /** A letter that was told, as its place among those told. */
        private int takeLetter(Tape tape, Formula formula) {
            int which = tape.oneOfThree('a');
            if (which < 0) {
                refuseToken(tape);
                return -1;
            }
            int p = formula.placeOf(which);
            if (p < 0) {
                refuse(tape, FAULT_SENSE);
            } else {
                tape.advance();
            }
            return p;
        }

        private int takeNodeNumber(Tape tape) {
            int i = tape.number();
            if (i < 0) {
                refuseToken(tape);
                return -1;
            }
            if (i >= MOST_NODES) {
                refuse(tape, FAULT_BOUNDS);
                return -1;
            }
            furthestNode = Math.max(furthestNode, i);
            tape.advance();
            return i;
        }

        private static int takeTruth(Tape tape) {
            if (!tape.isName("maybe")) {
                return YES;
            }
            tape.advance();
            return MAYBE;
        }

        private boolean takeSign(Tape tape, char sign) {
            if (!tape.isSign(sign)) {
                return refuseToken(tape);
            }
            tape.advance();
            return true;
        }
    }

    /** What programs do to a shape. */
    private static final class Deeds {
        private final int[] row = new int[MOST_NODES];

        int perform(Shape shape, int kind, int v, int w) {
            if (kind < TO_NOTHING || kind > TO_NEW || !isVariable(v)) {
                return BAD;
            }
            if (looksAtOther(kind) && !isVariable(w)) {
                return BAD;
            }
            if (kind == TO_NEW && shape.isFull()) {
                return FULL;
            }
            int answer = answerAhead(shape, kind, v, w);
            switch (kind) {
                case TO_NOTHING:
                    Arrays.fill(shape.at[v], NO);
                    break;
                case TO_OTHER:
                    System.arraycopy(shape.at[w], 0, shape.at[v], 0, MOST_NODES);
                    break;
                case TO_WHAT_IT_LEADS:
                    follow(shape, v, w);
                    break;
                case LEAD_TO_NOTHING:
                    cut(shape, v);
                    break;
                case LEAD_TO_OTHER:
                    cut(shape, v);
                    link(shape, v, w);
                    break;
                default:
                    Arrays.fill(shape.at[v], NO);
                    shape.at[v][shape.size] = YES;
                    shape.append(false);
                    break;
            }
            return answer;
        }

        private static boolean looksAtOther(int kind) {
            return kind == TO_OTHER || kind == TO_WHAT_IT_LEADS || kind == LEAD_TO_OTHER;
        }

        private static int answerAhead(Shape shape, int kind, int v, int w) {
            if (kind == TO_WHAT_IT_LEADS) {
                return shape.holding(w);
            }
            return kind == LEAD_TO_NOTHING || kind == LEAD_TO_OTHER ? shape.holding(v) : YES;
        }

        private void follow(Shape shape, int v, int w) {
            Arrays.fill(row, NO);
            for (int i = 0; i < shape.size; i++) {
                for (int j = 0; j < shape.size; j++) {
                    row[j] = Math.max(row[j], Math.min(shape.at[w][i], shape.next[i][j]));
                }
            }
            System.arraycopy(row, 0, shape.at[v], 0, MOST_NODES);
        }

        private static void cut(Shape shape, int v) {
            for (int i = 0; i < shape.size; i++) {
                int stays = YES - shape.at[v][i];
                for (int j = 0; j < shape.size; j++) {
                    shape.next[i][j] = Math.min(shape.next[i][j], stays);
                }
            }
        }

        private static void link(Shape shape, int v, int w) {
            for (int i = 0; i < shape.size; i++) {
                for (int j = 0; j < shape.size; j++) {
                    int comes = Math.min(shape.at[v][i], shape.at[w][j]);
                    shape.next[i][j] = Math.max(shape.next[i][j], comes);
                }
            }
        }
    }

    /** Nodes that are alike become one. */
    private static final class Folding {
        private static final int UNMET = -1;

        private final Shape folded = new Shape();
        private final int[] group = new int[MOST_NODES];

        void apply(Shape shape, boolean byReach) {
            shape.trace();
            folded.clear();
            for (int i = 0; i < shape.size; i++) {
                joinGroup(shape, byReach, i);
            }
            mergeNexts(shape);
            shape.copy(folded);
        }

        private void joinGroup(Shape shape, boolean byReach, int i) {
            for (int j = 0; j < i; j++) {
                if (alike(shape.at, i, j) && (!byReach || alike(shape.reach, i, j))) {
                    group[i] = group[j];
                    folded.many[group[j]] = true;
                    return;
                }
            }
            group[i] = folded.size;
            for (int v = 0; v < VARIABLES; v++) {
                folded.at[v][folded.size] = shape.at[v][i];
            }
            folded.append(shape.many[i]);
        }

        private static boolean alike(int[][] truths, int i, int j) {
            for (int v = 0; v < VARIABLES; v++) {
                if (truths[v][i] != truths[v][j]) {
                    return false;
                }
            }
            return true;
        }

        private void mergeNexts(Shape shape) {
            for (int g = 0; g < folded.size; g++) {
                for (int h = 0; h < folded.size; h++) {
                    folded.next[g][h] = UNMET;
                }
            }
            for (int i = 0; i < shape.size; i++) {
                for (int j = 0; j < shape.size; j++) {
                    int met = folded.next[group[i]][group[j]];
                    int truth = shape.next[i][j];
                    folded.next[group[i]][group[j]] = met == UNMET || met == truth ? truth : MAYBE;
                }
            }
        }
    }

    /** What must be so, drawn from what is. */
    private static final class Sharpening {
        // each round but the last changes one of 60 truths and manys
        private static final int MOST_ROUNDS = 100;

        private final Shape sharp = new Shape();
        private int changes;
        private boolean impossible;

        int apply(Shape shape) {
            sharp.copy(shape);
            changes = 0;
            impossible = false;
            int ahead = -1;
            for (int round = 0; round < MOST_ROUNDS && changes != ahead && !impossible; round++) {
                ahead = changes;
                drawFromAts();
                drawFromNexts();
            }
            if (impossible) {
                return STATE;
            }
            shape.copy(sharp);
            return changes;
        }

        private void drawFromAts() {
            for (int v = 0; v < VARIABLES; v++) {
                for (int i = 0; i < sharp.size; i++) {
                    if (sharp.at[v][i] == YES) {
                        makeSingle(i);
                        clearOthers(sharp.at[v], i);
                    }
                }
            }
        }

        private void drawFromNexts() {
            for (int i = 0; i < sharp.size; i++) {
                for (int j = 0; j < sharp.size; j++) {
                    if (sharp.next[i][j] == YES && !sharp.many[j]) {
                        clearOthers(sharp.next[i], j);
                    }
                }
            }
        }

        private void makeSingle(int i) {
            if (sharp.many[i]) {
                sharp.many[i] = false;
                changes++;
            }
        }

        private void clearOthers(int[] row, int stays) {
            for (int j = 0; j < sharp.size; j++) {
                if (j != stays && row[j] == YES) {
                    impossible = true;
                } else if (j != stays && row[j] == MAYBE) {
                    row[j] = NO;
                    changes++;
                }
            }
        }
    }

    /** The ways in which a variable may be somewhere. */
    private static final class Splitting {
        private static final int NOWHERE = -1;

        private int wayNode;
        private boolean wayBeside;
        private int met;
        private int sought;

        int number(Shape shape, int v) {
            goThrough(shape, v, -1);
            return met;
        }

        int apply(Shape shape, int v, int k) {
            goThrough(shape, v, k);
            if (k < 0 || k >= met) {
                return BAD;
            }
            if (wayBeside && shape.isFull()) {
                return FULL;
            }
            if (wayBeside) {
                appendOthersOf(shape, wayNode);
            }
            Arrays.fill(shape.at[v], NO);
            if (shape.has(wayNode)) {
                shape.at[v][wayNode] = YES;
                shape.many[wayNode] = false;
            }
            return shape.size;
        }

        private void goThrough(Shape shape, int v, int k) {
            met = 0;
            sought = k;
            wayNode = NOWHERE;
            wayBeside = false;
            int most = shape.holding(v);
            if (most != YES) {
                meet(NOWHERE, false);
            }
            for (int i = 0; i < shape.size; i++) {
                if (shape.at[v][i] != NO && shape.at[v][i] == most) {
                    meet(i, false);
                    if (shape.many[i] && most == MAYBE) {
                        meet(i, true);
                    }
                }
            }
        }

        private void meet(int i, boolean beside) {
            if (met == sought) {
                wayNode = i;
                wayBeside = beside;
            }
            met++;
        }

        private static void appendOthersOf(Shape shape, int i) {
            int more = shape.size;
            if (more >= MOST_NODES) {
                return;
            }
            for (int v = 0; v < VARIABLES; v++) {
                shape.at[v][more] = shape.at[v][i];
            }
            // with the row of i first, then every column, "between both" and "to itself" come as of i to itself
            System.arraycopy(shape.next[i], 0, shape.next[more], 0, MOST_NODES);
            for (int j = 0; j <= more; j++) {
                shape.next[j][more] = shape.next[j][i];
            }
            shape.append(true);
        }
    }

    /** Whether the nodes of one shape can be told to those of another. */
    private static final class Cover {
        private final int[] toldTo = new int[MOST_NODES];
        private final int[] having = new int[MOST_NODES];

        boolean holds(Shape wide, Shape other) {
            Arrays.fill(having, 0);
            return tellFrom(wide, other, 0, wide.size);
        }

        /** With the nodes ahead of j told, and so many of the wide one's that have none yet. */
        private boolean tellFrom(Shape wide, Shape other, int j, int lacking) {
            if (j >= other.size || j >= MOST_NODES) {
                return lacking == 0;
            }
            if (other.size - j < lacking) {
                return false;
            }
            for (int i = 0; i < wide.size; i++) {
                if (fits(wide, other, j, i)) {
                    toldTo[j] = i;
                    having[i]++;
                    boolean told = tellFrom(wide, other, j + 1, having[i] == 1 ? lacking - 1 : lacking);
                    having[i]--;
                    if (told) {
                        return true;
                    }
                }
            }
            return false;
        }

        private boolean fits(Shape wide, Shape other, int j, int i) {
            if (!wide.many[i] && (other.many[j] || having[i] > 0)) {
                return false;
            }
            for (int v = 0; v < VARIABLES; v++) {
                if (!allows(wide.at[v][i], other.at[v][j])) {
                    return false;
                }
            }
            if (!allows(wide.next[i][i], other.next[j][j])) {
                return false;
            }
            for (int p = 0; p < j; p++) {
                int q = toldTo[p];
                if (!allows(wide.next[i][q], other.next[j][p]) || !allows(wide.next[q][i], other.next[p][j])) {
                    return false;
                }
            }
            return true;
        }

        private static boolean allows(int truth, int ofOther) {
            return truth == MAYBE || truth == ofOther;
        }
    }

    /** A row of cells of one lane, or nothing; it tells what the machine would find. */
    private static final class Sheet {
        boolean isLaid;
        int lane;
        int size;
        final int[] cells = new int[MOST_CELLS];

        void renew(int asLane, int n) {
            isLaid = true;
            lane = asLane;
            size = Math.max(0, Math.min(n, MOST_CELLS));
            Arrays.fill(cells, 0);
        }

        /** What the machine finds when it is taken as of a lane and so many cells are asked for from i on; or 0. */
        int findTaken(int asLane, int i, int wanted) {
            if (!isLaid) {
                return FOUND_NULL;
            }
            if (lane != asLane) {
                return FOUND_CAST;
            }
            return i < 0 || i > size - wanted ? FOUND_INDEX : 0;
        }

        void put(int i, int v) {
            if (findTaken(lane, i, 1) != 0) {
                return;
            }
            if (lane == 0) {
                cells[i] = (byte) v;
            } else if (lane == 1) {
                cells[i] = (short) v;
            } else {
                cells[i] = v;
            }
        }
    }
}
