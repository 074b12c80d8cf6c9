import java.util.ArrayList;
import java.util.Arrays;
import java.util.LinkedHashMap;
import java.util.List;
import java.util.Map;

/**
 * The document once more, written for plainness alone and in other ways than the class: it builds every table anew
 * from its definition, tries all maps and all rows of nodes, and finds the faults of sheets by the machine itself.
 */
final class Model {
    /** A fault of a text. */
    private static final class Fault extends Exception {
        private static final long serialVersionUID = 1L;
        final int number;
        final int place;

        Fault(int number, int place) {
            this.number = number;
            this.place = place;
        }
    }

    private static final class Heap {
        final boolean[] many;
        final int[][] at;
        final int[][] next;

        Heap(int n) {
            many = new boolean[n];
            at = new int[3][n];
            next = new int[n][n];
        }

        int size() {
            return many.length;
        }

        /** The nodes of a list (which may be longer, or name one twice; -1: a new one) as a new heap. */
        Heap pick(int... from) {
            Heap h = new Heap(from.length);
            for (int i = 0; i < from.length; i++) {
                if (from[i] < 0) {
                    continue;
                }
                h.many[i] = many[from[i]];
                for (int v = 0; v < 3; v++) {
                    h.at[v][i] = at[v][from[i]];
                }
                for (int j = 0; j < from.length; j++) {
                    if (from[j] >= 0) {
                        h.next[i][j] = next[from[i]][from[j]];
                    }
                }
            }
            return h;
        }

        int[] all(int... more) {
            int[] list = Arrays.copyOf(range(size()), size() + more.length);
            System.arraycopy(more, 0, list, size(), more.length);
            return list;
        }

        Heap copy() {
            return pick(all());
        }

        int same(int i, int j) {
            return i != j ? 0 : many[i] ? 1 : 2;
        }

        /** The greatest t for which steps of t at least lead from i to j. */
        int way(int i, int j) {
            for (int t = 2; t > 0; t--) {
                boolean[] met = new boolean[size()];
                step(i, t, met);
                if (met[j]) {
                    return t;
                }
            }
            return 0;
        }

        private void step(int i, int t, boolean[] met) {
            for (int j = 0; j < size(); j++) {
                if (next[i][j] >= t && !met[j]) {
                    met[j] = true;
                    step(j, t, met);
                }
            }
        }

        int reach(int v, int j) {
            int r = 0;
            for (int i = 0; i < size(); i++) {
                r = Math.max(r, Math.min(at[v][i], Math.max(same(i, j), way(i, j))));
            }
            return r;
        }

        int held(int v) {
            return Arrays.stream(at[v]).max().orElse(0);
        }
    }

    private static final class Asked {
        final List<Character> letters = new ArrayList<>();
        final List<Boolean> all = new ArrayList<>();
        final List<String[]> items = new ArrayList<>();
        int most;
    }

    private String tape = "";
    private Heap heap = new Heap(0);
    private List<Asked> formulas = new ArrayList<>();
    private int fault;
    private final Heap[] images = new Heap[2];
    private final Object[] sheets = new Object[4];
    private int torn;

    private static int[] range(int n) {
        int[] r = new int[n];
        for (int i = 0; i < n; i++) {
            r[i] = i;
        }
        return r;
    }

    private boolean isNode(int i) {
        return i >= 0 && i < heap.size();
    }

    int feed(int c) {
        if (c < 0 || c > 127) {
            return -1;
        }
        if (tape.length() == 320) {
            return -3;
        }
        tape += (char) c;
        return tape.length();
    }

    int end(int n) {
        if (n < 0 || n > tape.length()) {
            return -1;
        }
        int had = tape.length();
        tape = tape.substring(0, n);
        return had;
    }

    // the text

    private int pos;
    private String token;
    private int tokenAt;

    /** The next token: a name, a number, ; or : and "" at the end. */
    private void take() throws Fault {
        while (pos < tape.length() && tape.charAt(pos) == ' ') {
            pos++;
        }
        tokenAt = pos;
        String rest = tape.substring(pos);
        String found = rest.replaceFirst("(?s)^([a-z]+|[0-9]+|[;:]|).*", "$1");
        if (found.isEmpty() && !rest.isEmpty() || found.matches("[0-9]{3,}")) {
            throw new Fault(1, pos);
        }
        token = found;
        pos += found.length();
    }

    private String want(String pattern) throws Fault {
        if (!token.matches(pattern)) {
            throw new Fault(2, tokenAt);
        }
        String got = token;
        take();
        return got;
    }

    private int wantNode(List<Integer> spokenOf) throws Fault {
        if (!token.matches("[0-9]+")) {
            throw new Fault(2, tokenAt);
        }
        int i = Integer.parseInt(token);
        if (i > 5) {
            throw new Fault(3, tokenAt);
        }
        take();
        spokenOf.add(i);
        return i;
    }

    int text() {
        try {
            int lines = readText();
            fault = 0;
            images[0] = null;
            images[1] = null;
            tape = "";
            return lines;
        } catch (Fault f) {
            fault = f.number;
            tape = "";
            return -10 - f.place;
        }
    }

    private int readText() throws Fault {
        List<Boolean> nodes = new ArrayList<>();
        int[][] at = new int[3][6];
        int[][] next = new int[6][6];
        List<Integer> spokenOf = new ArrayList<>();
        List<Asked> asked = new ArrayList<>();
        int lines = 0;
        pos = 0;
        take();
        for (; !token.isEmpty(); lines++) {
            if (token.equals("node") || token.equals("many")) {
                if (nodes.size() == 6) {
                    throw new Fault(5, tokenAt);
                }
                nodes.add(token.equals("many"));
                take();
            } else if (token.equals("at")) {
                take();
                int v = want("[xyz]").charAt(0) - 'x';
                int i = wantNode(spokenOf);
                at[v][i] = wantTruth();
            } else if (token.equals("next")) {
                take();
                int i = wantNode(spokenOf);
                int j = wantNode(spokenOf);
                next[i][j] = wantTruth();
            } else if (token.equals("ask")) {
                if (asked.size() == 4) {
                    throw new Fault(5, tokenAt);
                }
                take();
                asked.add(readFormula());
            } else {
                throw new Fault(2, tokenAt);
            }
            want(";");
        }
        for (int i : spokenOf) {
            if (i >= nodes.size()) {
                throw new Fault(6, tape.length());
            }
        }
        Heap h = new Heap(nodes.size());
        for (int i = 0; i < h.size(); i++) {
            h.many[i] = nodes.get(i);
            h.next[i] = Arrays.copyOf(next[i], h.size());
        }
        for (int v = 0; v < 3; v++) {
            h.at[v] = Arrays.copyOf(at[v], h.size());
        }
        heap = h;
        formulas = asked;
        return lines;
    }

    private int wantTruth() throws Fault {
        if (token.equals("maybe")) {
            take();
            return 1;
        }
        return 2;
    }

    private Asked readFormula() throws Fault {
        Asked f = new Asked();
        while (token.equals("all") || token.equals("some")) {
            f.all.add(token.equals("all"));
            take();
            int place = tokenAt;
            if (!token.matches("[abc]")) {
                throw new Fault(2, place);
            }
            if (f.letters.contains(token.charAt(0))) {
                throw new Fault(4, place);
            }
            f.letters.add(token.charAt(0));
            take();
        }
        want(":");
        int height = 0;
        do {
            height = readItem(f, height);
            f.most = Math.max(f.most, height);
        } while (!token.equals(";"));
        if (height != 1) {
            throw new Fault(4, tokenAt);
        }
        return f;
    }

    private int readItem(Asked f, int height) throws Fault {
        String name = token;
        int place = tokenAt;
        if (!name.matches("at|reach|next|same|many|not|and|or")) {
            throw new Fault(2, place);
        }
        if (f.items.size() == 12) {
            throw new Fault(5, place);
        }
        int less = name.equals("not") ? 1 : name.equals("and") || name.equals("or") ? 2 : 0;
        if (height < less) {
            throw new Fault(4, place);
        }
        take();
        List<String> words = new ArrayList<>();
        words.add(name);
        if (name.equals("at") || name.equals("reach")) {
            words.add(want("[xyz]"));
        }
        int letters = name.equals("next") || name.equals("same") ? 2 : less > 0 ? 0 : 1;
        for (int i = 0; i < letters; i++) {
            if (!token.matches("[abc]")) {
                throw new Fault(2, tokenAt);
            }
            if (!f.letters.contains(token.charAt(0))) {
                throw new Fault(4, tokenAt);
            }
            words.add(token);
            take();
        }
        f.items.add(words.toArray(new String[0]));
        return height - less + 1;
    }

    int fault() {
        return fault;
    }

    // what there is

    private static int number(int[][] tables, int truth) {
        return (int) Arrays.stream(tables).flatMapToInt(Arrays::stream).filter(t -> t == truth).count();
    }

    private static boolean oneAtMost(int[][] rows) {
        return Arrays.stream(rows).allMatch(r -> Arrays.stream(r).filter(t -> t == 2).count() <= 1);
    }

    int rule(int what) {
        int many = 0;
        for (boolean m : heap.many) {
            many += m ? 1 : 0;
        }
        boolean isHeap = many == 0 && number(heap.at, 1) + number(heap.next, 1) == 0
            && oneAtMost(heap.at) && oneAtMost(heap.next);
        int[] answers = {heap.size(), formulas.size(), many, number(heap.at, 1), number(heap.next, 1),
            number(heap.at, 2), number(heap.next, 2), isHeap ? 1 : 0};
        return what < 0 || what >= answers.length ? -1 : answers[what];
    }

    int node(int i, int what) {
        if (!isNode(i) || what < 0 || what > 6) {
            return -1;
        }
        return what == 0 ? (heap.many[i] ? 1 : 0) : what < 4 ? heap.at[what - 1][i] : heap.reach(what - 4, i);
    }

    int pair(int i, int j, int what) {
        if (!isNode(i) || !isNode(j) || what < 0 || what > 2) {
            return -1;
        }
        return what == 0 ? heap.next[i][j] : what == 1 ? heap.way(i, j) : heap.same(i, j);
    }

    int held(int v) {
        return v < 0 || v > 2 ? -1 : heap.held(v);
    }

    int ask(int k) {
        if (k < 0 || k >= formulas.size()) {
            return -1;
        }
        return worth(formulas.get(k), new LinkedHashMap<>());
    }

    private int worth(Asked f, Map<Character, Integer> stands) {
        if (stands.size() == f.letters.size()) {
            return items(f, stands);
        }
        boolean all = f.all.get(stands.size());
        List<Integer> got = new ArrayList<>();
        got.add(all ? 2 : 0);
        for (int i = 0; i < heap.size(); i++) {
            Map<Character, Integer> more = new LinkedHashMap<>(stands);
            more.put(f.letters.get(stands.size()), i);
            got.add(worth(f, more));
        }
        return all ? got.stream().min(Integer::compare).get() : got.stream().max(Integer::compare).get();
    }

    private int items(Asked f, Map<Character, Integer> stands) {
        List<Integer> stack = new ArrayList<>();
        for (String[] item : f.items) {
            int last = item.length < 2 ? 0 : stands.get(item[item.length - 1].charAt(0));
            switch (item[0]) {
                case "at" -> stack.add(heap.at[item[1].charAt(0) - 'x'][last]);
                case "reach" -> stack.add(heap.reach(item[1].charAt(0) - 'x', last));
                case "next" -> stack.add(heap.next[stands.get(item[1].charAt(0))][last]);
                case "same" -> stack.add(heap.same(stands.get(item[1].charAt(0)), last));
                case "many" -> stack.add(heap.many[last] ? 2 : 0);
                case "not" -> stack.add(2 - stack.remove(stack.size() - 1));
                default -> {
                    int b = stack.remove(stack.size() - 1);
                    int a = stack.remove(stack.size() - 1);
                    stack.add(item[0].equals("and") ? Math.min(a, b) : Math.max(a, b));
                }
            }
        }
        return stack.get(0);
    }

    int formula(int k, int what) {
        if (k < 0 || k >= formulas.size() || what < 0 || what > 3) {
            return -1;
        }
        Asked f = formulas.get(k);
        int bits = 0;
        for (int p = 0; p < f.all.size(); p++) {
            bits += f.all.get(p) ? 1 << p : 0;
        }
        return new int[] {f.letters.size(), bits, f.items.size(), f.most}[what];
    }

    // what is changed by hand

    int add(int many) {
        if (many != 0 && many != 1) {
            return -1;
        }
        if (heap.size() == 6) {
            return -3;
        }
        heap = heap.pick(heap.all(-1));
        heap.many[heap.size() - 1] = many == 1;
        return heap.size();
    }

    int lose(int i) {
        if (!isNode(i)) {
            return -1;
        }
        heap = heap.pick(Arrays.stream(heap.all()).filter(j -> j != i).toArray());
        return heap.size();
    }

    int many(int i, int on) {
        if (!isNode(i) || on != 0 && on != 1) {
            return -1;
        }
        int was = heap.many[i] ? 1 : 0;
        heap.many[i] = on == 1;
        return was;
    }

    int place(int v, int i, int truth) {
        if (v < 0 || v > 2 || !isNode(i) || truth < 0 || truth > 2) {
            return -1;
        }
        int was = heap.at[v][i];
        heap.at[v][i] = truth;
        return was;
    }

    int lead(int i, int j, int truth) {
        if (!isNode(i) || !isNode(j) || truth < 0 || truth > 2) {
            return -1;
        }
        int was = heap.next[i][j];
        heap.next[i][j] = truth;
        return was;
    }

    // deeds, folding

    int deed(int kind, int v, int w) {
        boolean usesW = kind == 1 || kind == 2 || kind == 4;
        if (kind < 0 || kind > 5 || v < 0 || v > 2 || usesW && (w < 0 || w > 2)) {
            return -1;
        }
        if (kind == 5 && heap.size() == 6) {
            return -3;
        }
        Heap old = heap;
        heap = kind == 5 ? old.pick(old.all(-1)) : old.copy();
        for (int i = 0; i < heap.size(); i++) {
            if (kind == 5) {
                heap.at[v][i] = i == old.size() ? 2 : 0;
                continue;
            }
            if (kind < 3) {
                heap.at[v][i] = kind == 1 ? old.at[w][i] : 0;
            }
            for (int j = 0; j < old.size(); j++) {
                if (kind == 2) {
                    heap.at[v][i] = Math.max(heap.at[v][i], Math.min(old.at[w][j], old.next[j][i]));
                } else if (kind > 2) {
                    int stays = Math.min(old.next[i][j], 2 - old.at[v][i]);
                    heap.next[i][j] = kind == 3 ? stays : Math.max(stays, Math.min(old.at[v][i], old.at[w][j]));
                }
            }
        }
        return kind == 2 ? old.held(w) : kind == 3 || kind == 4 ? old.held(v) : 2;
    }

    int fold(int mode) {
        if (mode != 0 && mode != 1) {
            return -1;
        }
        Map<String, List<Integer>> groups = new LinkedHashMap<>();
        for (int i = 0; i < heap.size(); i++) {
            StringBuilder key = new StringBuilder();
            for (int v = 0; v < 3; v++) {
                key.append(heap.at[v][i]).append(mode == 1 ? heap.reach(v, i) : 0);
            }
            groups.computeIfAbsent(key.toString(), k -> new ArrayList<>()).add(i);
        }
        List<List<Integer>> of = new ArrayList<>(groups.values());
        Heap h = new Heap(of.size());
        for (int g = 0; g < h.size(); g++) {
            h.many[g] = of.get(g).size() > 1 || heap.many[of.get(g).get(0)];
            for (int v = 0; v < 3; v++) {
                h.at[v][g] = heap.at[v][of.get(g).get(0)];
            }
            for (int e = 0; e < h.size(); e++) {
                List<Integer> truths = new ArrayList<>();
                for (int i : of.get(g)) {
                    for (int j : of.get(e)) {
                        truths.add(heap.next[i][j]);
                    }
                }
                h.next[g][e] = truths.stream().distinct().count() == 1 ? truths.get(0) : 1;
            }
        }
        heap = h;
        return h.size();
    }

    /** One change at a time, from the start each time. */
    int sharpen() {
        Heap h = heap.copy();
        int changed = 0;
        for (int one = sharpenOnce(h); one != 0; one = sharpenOnce(h)) {
            if (one < 0) {
                return -2;
            }
            changed++;
        }
        heap = h;
        return changed;
    }

    private static int sharpenOnce(Heap h) {
        for (int i = 0; i < h.size(); i++) {
            for (int j = 0; j < h.size(); j++) {
                if (h.next[i][j] == 2 && !h.many[j]) {
                    int one = noOther(h.next[i], j);
                    if (one != 0) {
                        return one;
                    }
                }
            }
        }
        for (int v = 2; v >= 0; v--) {
            for (int i = 0; i < h.size(); i++) {
                if (h.at[v][i] == 2) {
                    int one = noOther(h.at[v], i);
                    if (one != 0) {
                        return one;
                    }
                    if (h.many[i]) {
                        h.many[i] = false;
                        return 1;
                    }
                }
            }
        }
        return 0;
    }

    private static int noOther(int[] row, int but) {
        for (int k = row.length - 1; k >= 0; k--) {
            if (k != but && row[k] != 0) {
                int was = row[k];
                row[k] = 0;
                return was == 2 ? -1 : 1;
            }
        }
        return 0;
    }

    private List<int[]> waysOf(int v) {
        List<int[]> ways = new ArrayList<>();
        boolean sure = heap.held(v) == 2;
        if (!sure) {
            ways.add(new int[] {-1, 0});
        }
        for (int i = 0; i < heap.size(); i++) {
            if (heap.at[v][i] == 2 || heap.at[v][i] == 1 && !sure) {
                ways.add(new int[] {i, 0});
                if (heap.many[i] && heap.at[v][i] == 1) {
                    ways.add(new int[] {i, 1});
                }
            }
        }
        return ways;
    }

    int ways(int v) {
        return v < 0 || v > 2 ? -1 : waysOf(v).size();
    }

    int split(int v, int k) {
        if (v < 0 || v > 2 || k < 0 || k >= waysOf(v).size()) {
            return -1;
        }
        int[] way = waysOf(v).get(k);
        if (way[1] == 1 && heap.size() == 6) {
            return -3;
        }
        heap = way[1] == 1 ? heap.pick(heap.all(way[0])) : heap;
        for (int i = 0; i < heap.size(); i++) {
            heap.at[v][i] = i == way[0] ? 2 : 0;
        }
        if (way[0] >= 0) {
            heap.many[way[0]] = false;
        }
        return heap.size();
    }

    int run(int seed, int n) {
        if (n < 1 || n > 20) {
            return -1;
        }
        int done = 0;
        long s = seed;
        for (int i = 0; i < n; i++) {
            s = (s * 1103515245L + 12345L) & 0xffffffffL;
            int got = (int) (s >> 16) & 32767;
            done += deed(got % 6, (got >> 3) % 3, (got >> 5) % 3) == -3 ? 0 : 1;
        }
        return done;
    }

    // images, sheets

    int keep(int k) {
        if (k < 0 || k > 1) {
            return -1;
        }
        int was = images[k] == null ? 0 : 1;
        images[k] = heap.copy();
        return was;
    }

    int back(int k) {
        if (k < 0 || k > 1) {
            return -1;
        }
        if (images[k] == null) {
            return -2;
        }
        heap = images[k].copy();
        return heap.size();
    }

    int covers(int k, int what) {
        if (k < 0 || k > 1 || what < 0 || what > 1) {
            return -1;
        }
        if (images[k] == null) {
            return -2;
        }
        return what == 0 ? covers(heap, images[k]) : covers(images[k], heap);
    }

    /** All maps, as numbers written with the first one's size as base. */
    private static int covers(Heap first, Heap other) {
        int maps = 1;
        for (int i = 0; i < other.size(); i++) {
            maps *= first.size();
        }
        int[] to = new int[other.size()];
        for (int map = 0; map < maps; map++) {
            int rest = map;
            for (int i = 0; i < to.length; i++) {
                to[i] = rest % first.size();
                rest /= first.size();
            }
            if (tellsAll(first, other, to)) {
                return 1;
            }
        }
        return 0;
    }

    private static boolean tellsAll(Heap first, Heap other, int[] to) {
        int[] having = new int[first.size()];
        for (int i = 0; i < to.length; i++) {
            having[to[i]] += other.many[i] ? 2 : 1;
        }
        for (int a = 0; a < having.length; a++) {
            if (having[a] == 0 || having[a] > 1 && !first.many[a]) {
                return false;
            }
        }
        for (int i = 0; i < to.length; i++) {
            for (int v = 0; v < 3; v++) {
                if (first.at[v][to[i]] != 1 && first.at[v][to[i]] != other.at[v][i]) {
                    return false;
                }
            }
            for (int j = 0; j < to.length; j++) {
                if (first.next[to[i]][to[j]] != 1 && first.next[to[i]][to[j]] != other.next[i][j]) {
                    return false;
                }
            }
        }
        return true;
    }

    int sheet(int k, int lane, int n) {
        if (k < 0 || k > 3 || lane < 0 || lane > 2 || n > 40) {
            return -1;
        }
        try {
            sheets[k] = lane == 0 ? new byte[n] : lane == 1 ? new short[n] : new int[n];
            return 1;
        } catch (NegativeArraySizeException e) {
            return -14;
        }
    }

    int lay(int k, int i, int v) {
        if (k < 0 || k > 3) {
            return -1;
        }
        try {
            if (sheets[k] instanceof byte[] b) {
                b[i] = (byte) v;
            } else if (sheets[k] instanceof short[] s) {
                s[i] = (short) v;
            } else {
                ((int[]) sheets[k])[i] = v;
            }
            return 1;
        } catch (NullPointerException e) {
            return -11;
        } catch (ArrayIndexOutOfBoundsException e) {
            return -12;
        }
    }

    private int cell(int k, int lane, int i) {
        return lane == 0 ? ((byte[]) sheets[k])[i] : lane == 1 ? ((short[]) sheets[k])[i] : ((int[]) sheets[k])[i];
    }

    int read(int k, int lane, int f, int n) {
        if (k < 0 || k > 3 || lane < 0 || lane > 2 || n < 0 || n > 13) {
            return -1;
        }
        Heap was = heap.copy();
        int found = 0;
        int came = 0;
        try {
            while (came < n) {
                int c = f + 3 * came;
                if (deed(cell(k, lane, c), cell(k, lane, c + 1), cell(k, lane, c + 2)) < 0) {
                    heap = was;
                    return -20 - came;
                }
                came++;
            }
        } catch (NullPointerException e) {
            found = 1;
        } catch (ArrayIndexOutOfBoundsException e) {
            found = 2;
        } catch (ClassCastException e) {
            found = 3;
        }
        torn = found;
        return came;
    }

    int torn() {
        return torn;
    }

    int count(int what) {
        switch (what) {
            case 0: return (images[0] == null ? 0 : 1) + (images[1] == null ? 0 : 1);
            case 1: return tape.length();
            case 2: return sheets[0] == null ? -4 : java.lang.reflect.Array.getLength(sheets[0]);
            case 3: return formulas.stream().mapToInt(f -> f.items.size()).sum();
            default: return -1;
        }
    }
}
