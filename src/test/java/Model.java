import java.util.ArrayList;
import java.util.HashMap;
import java.util.HashSet;
import java.util.List;
import java.util.Map;
import java.util.NoSuchElementException;
import java.util.Set;
import java.util.TreeSet;

/**
 * A second, plain and slow writing of the document, made of other means than FlowChain: tables of
 * joins, trees, sets of tokens, and rules that are gone over until nothing changes any more.
 */
final class Model {
    final int n;
    final boolean[][] under;
    boolean isSealed;
    StringBuilder text = new StringBuilder();
    List<int[]> code = new ArrayList<>();
    int[] fixed = filled(26);
    int[] rows = filled(26);
    Tree program;
    boolean isVerified;
    Maps maps;
    int place = -1;
    int kind = -1;
    List<List<Integer>> inputs = new ArrayList<>();
    List<List<Integer>> outputs = new ArrayList<>();
    int[] values = new int[234];
    int fuelTaken;

    Model(int size) {
        n = size < 1 ? 1 : size > 6 ? 6 : size;
        under = new boolean[n][n];
        for (int i = 0; i < n; i++) {
            under[i][i] = true;
            inputs.add(new ArrayList<>());
            outputs.add(new ArrayList<>());
        }
    }

    private static int[] filled(int length) {
        int[] made = new int[length];
        java.util.Arrays.fill(made, -1);
        return made;
    }

    private void argument(boolean fits) {
        if (!fits) {
            throw new IllegalArgumentException();
        }
    }

    private void state(boolean fits) {
        if (!fits) {
            throw new IllegalStateException();
        }
    }

    private boolean isLabel(int l) {
        return 0 <= l && l < n;
    }

    int below(int a, int b) {
        argument(isLabel(a) && isLabel(b));
        state(!isSealed);
        under[a][b] = true;
        for (int k = 0; k < n; k++) {
            for (int i = 0; i < n; i++) {
                for (int j = 0; j < n; j++) {
                    under[i][j] |= under[i][k] && under[k][j];
                }
            }
        }
        int pairs = 0;
        for (boolean[] row : under) {
            for (boolean b1 : row) {
                pairs += b1 ? 1 : 0;
            }
        }
        return pairs;
    }

    private int bound(int a, int b, boolean up) {
        List<Integer> common = new ArrayList<>();
        for (int c = 0; c < n; c++) {
            if (up ? under[a][c] && under[b][c] : under[c][a] && under[c][b]) {
                common.add(c);
            }
        }
        for (int c : common) {
            boolean all = true;
            for (int d : common) {
                all &= up ? under[c][d] : under[d][c];
            }
            if (all) {
                return c;
            }
        }
        return -1;
    }

    private int join(int a, int b) {
        return bound(a, b, true);
    }

    private int bottom() {
        int bottom = 0;
        for (int a = 0; a < n; a++) {
            bottom = bound(bottom, a, false);
        }
        return bottom;
    }

    int seal() {
        state(!isSealed);
        for (int round = 0; round < 2; round++) {
            for (int a = 0; a < n; a++) {
                for (int b = a + 1; b < n; b++) {
                    boolean bad = round == 0 ? under[a][b] && under[b][a]
                            : bound(a, b, true) < 0 || bound(a, b, false) < 0;
                    if (bad) {
                        place = 10 * a + b;
                        kind = 7;
                        throw new UnsupportedOperationException();
                    }
                }
            }
        }
        isSealed = true;
        place = -1;
        kind = -1;
        return bottom();
    }

    int label(int what, int a, int b) {
        argument(0 <= what && what <= 2 && isLabel(a) && isLabel(b));
        if (what == 0) {
            return under[a][b] ? 1 : 0;
        }
        state(isSealed);
        return bound(a, b, what == 1);
    }

    int append(long v, int count) {
        argument(1 <= count && count <= 8);
        StringBuilder more = new StringBuilder();
        for (int k = count - 1; k >= 0; k--) {
            int sign = (int) (v >>> (8 * k)) & 0xff;
            argument(32 <= sign && sign <= 126);
            more.append((char) sign);
        }
        if (text.length() + count > 240) {
            throw new IndexOutOfBoundsException();
        }
        text.append(more);
        return text.length();
    }

    // ---- reading

    static final class Tree {
        String kind;
        int place;
        int x;
        int y;
        boolean hasElse;
        List<Tree> parts = new ArrayList<>();
        List<Tree> block = new ArrayList<>();
        List<Tree> other = new ArrayList<>();
        Map<Integer, List<Tree>> procs;
        int[] fixed;
        int[] rows;

        Tree(String kind, int place) {
            this.kind = kind;
            this.place = place;
        }
    }

    static final class Bad extends RuntimeException {
        private static final long serialVersionUID = 1;
        final int at;
        final int why;

        Bad(int at, int why) {
            this.at = at;
            this.why = why;
        }
    }

    static final class Tokens {
        final List<String> words = new ArrayList<>();
        final List<Integer> places = new ArrayList<>();
        int at;

        Tokens(String text) {
            int i = 0;
            while (i < text.length()) {
                int j = i + 1;
                char c = text.charAt(i);
                if (c != ' ') {
                    String family = c >= 'a' && c <= 'z' ? "[a-z]+" : c >= '0' && c <= '9' ? "[0-9]+" : "x";
                    while (j < text.length() && text.substring(i, j + 1).matches(family)) {
                        j++;
                    }
                    words.add(text.substring(i, j));
                    places.add(i);
                }
                i = j;
            }
            words.add("");
            places.add(text.length());
        }

        String here() {
            return words.get(at);
        }

        int place() {
            return places.get(at);
        }

        String take(String pattern) {
            if (!here().matches(pattern)) {
                throw new Bad(place(), 8);
            }
            return words.get(at++);
        }

        void refuseIf(boolean bad) {
            if (bad) {
                throw new Bad(place(), 8);
            }
        }
    }

    private final class Parser {
        final Tokens t;
        final Map<Integer, String> names = new HashMap<>();
        final Set<Integer> ended = new HashSet<>();
        int open;

        Parser(String s) {
            t = new Tokens(s);
        }

        void open(String sign) {
            t.refuseIf(!t.here().equals(sign) || open == 8);
            t.at++;
            open++;
        }

        void shut(String sign) {
            t.refuseIf(!t.here().equals(sign));
            t.at++;
            open--;
        }

        boolean isName() {
            return t.here().matches("[a-z]");
        }

        int nameHere() {
            t.refuseIf(!isName());
            return t.here().charAt(0) - 'a';
        }

        String roleHere() {
            return isName() ? names.getOrDefault(nameHere(), "variable") : "nothing";
        }

        int takeRole(String role) {
            int name = nameHere();
            t.refuseIf(!roleHere().equals(role));
            names.put(name, role);
            t.at++;
            return name;
        }

        int takeNew(String role) {
            int name = nameHere();
            t.refuseIf(names.containsKey(name));
            names.put(name, role);
            t.at++;
            return name;
        }

        int takeLabel() {
            t.refuseIf(!t.here().matches("[0-9]{1,9}") || Integer.parseInt(t.here()) >= n);
            return Integer.parseInt(t.words.get(t.at++));
        }

        Tree program() {
            Tree tree = new Tree("program", 0);
            tree.procs = new HashMap<>();
            tree.fixed = filled(26);
            tree.rows = filled(26);
            while (t.here().matches("var|row|proc")) {
                String what = t.words.get(t.at++);
                if (what.equals("proc")) {
                    int name = takeNew("proc");
                    tree.procs.put(name, block());
                    ended.add(name);
                } else {
                    int name = takeNew(what.equals("row") ? "row" : "variable");
                    t.take(":");
                    (what.equals("row") ? tree.rows : tree.fixed)[name] = takeLabel();
                    t.take(";");
                }
            }
            while (!t.here().isEmpty()) {
                tree.block.add(statement());
            }
            return tree;
        }

        List<Tree> block() {
            List<Tree> made = new ArrayList<>();
            open("{");
            while (!t.here().equals("}")) {
                made.add(statement());
            }
            shut("}");
            return made;
        }

        Tree statement() {
            Tree tree = new Tree(t.here(), t.place());
            switch (t.here()) {
                case "if":
                case "while":
                    t.at++;
                    tree.parts.add(e());
                    tree.block = block();
                    if (tree.kind.equals("if") && t.here().equals("else")) {
                        t.at++;
                        tree.hasElse = true;
                        tree.other = block();
                    }
                    return tree;
                case "in":
                    t.at++;
                    tree.x = takeRole("variable");
                    t.take(":");
                    tree.y = takeLabel();
                    break;
                case "out":
                    t.at++;
                    tree.parts.add(e());
                    t.take(":");
                    tree.y = takeLabel();
                    break;
                case "do":
                    t.at++;
                    t.refuseIf(!ended.contains(nameHere()));
                    tree.x = takeRole("proc");
                    break;
                default:
                    if (roleHere().equals("row")) {
                        tree.kind = "row";
                        tree.x = takeRole("row");
                        open("[");
                        tree.parts.add(e());
                        shut("]");
                    } else {
                        tree.kind = "set";
                        tree.x = takeRole("variable");
                    }
                    t.take("=");
                    tree.parts.add(e());
            }
            t.take(";");
            return tree;
        }

        Tree binary(Tree left, Tree right, String sign) {
            Tree tree = new Tree(sign, 0);
            tree.parts.add(left);
            tree.parts.add(right);
            return tree;
        }

        Tree e() {
            Tree left = s();
            if (t.here().matches("[<=]")) {
                String sign = t.words.get(t.at++);
                return binary(left, s(), sign);
            }
            return left;
        }

        Tree s() {
            Tree left = product();
            while (t.here().matches("[+-]")) {
                String sign = t.words.get(t.at++);
                left = binary(left, product(), sign);
            }
            return left;
        }

        Tree product() {
            Tree left = f();
            while (t.here().matches("[*/]")) {
                String sign = t.words.get(t.at++);
                left = binary(left, f(), sign);
            }
            return left;
        }

        Tree f() {
            if (t.here().equals("(")) {
                open("(");
                Tree tree = e();
                shut(")");
                return tree;
            }
            if (t.here().matches("[0-9]{1,9}")) {
                Tree tree = new Tree("number", 0);
                tree.x = Integer.parseInt(t.words.get(t.at++));
                return tree;
            }
            if (roleHere().equals("row")) {
                Tree tree = new Tree("at", 0);
                tree.x = takeRole("row");
                open("[");
                tree.parts.add(e());
                shut("]");
                return tree;
            }
            Tree tree = new Tree("variable", 0);
            tree.x = takeRole("variable");
            return tree;
        }
    }

    // ---- flows

    private final class Flows {
        final Tree tree;

        Flows(Tree tree) {
            this.tree = tree;
        }

        int row(int r) {
            return tree.rows[r] < 0 ? bottom() : tree.rows[r];
        }

        int of(Tree e, int[] has) {
            int l = bottom();
            if (e.kind.equals("variable")) {
                l = has[e.x];
            } else if (e.kind.equals("at")) {
                l = row(e.x);
            }
            for (Tree part : e.parts) {
                l = join(l, of(part, has));
            }
            return l;
        }

        void need(int a, int b, Tree s) {
            if (!under[a][b]) {
                throw new Bad(s.place, 9);
            }
        }

        int[] joined(int[] a, int[] b) {
            int[] made = new int[26];
            for (int v = 0; v < 26; v++) {
                made[v] = join(a[v], b[v]);
            }
            return made;
        }

        int[] block(List<Tree> block, int level, int[] has) {
            for (Tree s : block) {
                has = statement(s, level, has);
            }
            return has;
        }

        int[] put(Tree s, int d, int[] has) {
            int[] made = has.clone();
            if (tree.fixed[s.x] >= 0) {
                need(d, tree.fixed[s.x], s);
            } else {
                made[s.x] = d;
            }
            return made;
        }

        int[] statement(Tree s, int level, int[] has) {
            int d = level;
            for (Tree e : s.parts) {
                d = join(d, of(e, has));
            }
            switch (s.kind) {
                case "set":
                    return put(s, d, has);
                case "row":
                    need(d, row(s.x), s);
                    return has;
                case "out":
                    need(d, s.y, s);
                    return has;
                case "in":
                    need(level, s.y, s);
                    return put(s, s.y, has);
                case "if":
                    int[] then = block(s.block, d, has);
                    return joined(then, s.hasElse ? block(s.other, d, has) : has);
                case "while":
                    int[] more = joined(has, block(s.block, d, has));
                    return java.util.Arrays.equals(more, has) ? has : statement(s, level, more);
                default:
                    return block(tree.procs.get(s.x), level, has);
            }
        }
    }

    // ---- compiling

    private static final class Emitter {
        final Tree tree;
        final List<int[]> made = new ArrayList<>();

        Emitter(Tree tree) {
            this.tree = tree;
        }

        int put(int operation, int x) {
            if (made.size() == 64) {
                throw new Bad(64, 10);
            }
            made.add(new int[] {operation, x});
            return made.size() - 1;
        }

        void e(Tree e) {
            for (Tree part : e.parts) {
                e(part);
            }
            switch (e.kind) {
                case "number": put(0, e.x); break;
                case "variable": put(1, e.x); break;
                case "at": put(3, e.x); break;
                default: put(5 + "+-*/<=".indexOf(e.kind), 0);
            }
        }

        void block(List<Tree> block) {
            for (Tree s : block) {
                int start = made.size();
                for (Tree e : s.parts) {
                    e(e);
                }
                switch (s.kind) {
                    case "set": put(2, s.x); break;
                    case "row": put(4, s.x); break;
                    case "in": put(13, s.y); put(2, s.x); break;
                    case "out": put(14, s.y); break;
                    case "do": block(tree.procs.get(s.x)); break;
                    default:
                        int zero = put(11, 0);
                        block(s.block);
                        int leap = -1;
                        if (s.kind.equals("while")) {
                            put(12, start);
                        } else if (s.hasElse) {
                            leap = put(12, 0);
                        }
                        made.get(zero)[1] = made.size();
                        block(s.other);
                        if (leap >= 0) {
                            made.get(leap)[1] = made.size();
                        }
                }
            }
        }
    }

    int compile() {
        state(isSealed);
        String read = text.toString();
        text.setLength(0);
        try {
            Tree tree = new Parser(read).program();
            int[] has = new int[26];
            for (int v = 0; v < 26; v++) {
                has[v] = tree.fixed[v] < 0 ? bottom() : tree.fixed[v];
            }
            new Flows(tree).block(tree.block, bottom(), has);
            Emitter emitter = new Emitter(tree);
            emitter.block(tree.block);
            emitter.put(15, 0);
            program = tree;
            code = emitter.made;
            fixed = tree.fixed.clone();
            rows = tree.rows.clone();
            isVerified = false;
            maps = null;
            place = -1;
            kind = -1;
            return code.size();
        } catch (Bad bad) {
            place = bad.at;
            kind = bad.why;
        }
        if (kind == 8) {
            throw new NoSuchElementException();
        }
        if (kind == 9) {
            throw new UnsupportedOperationException();
        }
        throw new IndexOutOfBoundsException();
    }

    private void forget() {
        program = null;
        isVerified = false;
        maps = null;
    }

    int code(int operation, int x) {
        argument(0 <= operation && operation <= 15);
        state(code.size() < 64);
        forget();
        code.add(new int[] {operation, x});
        return code.size() - 1;
    }

    int fix(int name, boolean row, int label) {
        argument(0 <= name && name <= 25 && (label == -1 || isLabel(label)));
        forget();
        int[] table = row ? rows : fixed;
        int old = table[name];
        table[name] = label;
        return old;
    }

    int clear() {
        forget();
        int size = code.size();
        code = new ArrayList<>();
        fixed = filled(26);
        rows = filled(26);
        return size;
    }

    // ---- verifying

    static final class Maps {
        Integer[] heights;
        int[] levels;
        int[][] variables;
        int[][] stacks;
        int[] next;
        List<Set<Integer>> regions = new ArrayList<>();
    }

    private List<Integer> nexts(int i) {
        int operation = code.get(i)[0];
        List<Integer> made = new ArrayList<>();
        if (operation != 12 && operation != 15) {
            made.add(i + 1);
        }
        if (operation == 11 || operation == 12) {
            made.add(code.get(i)[1]);
        }
        return made;
    }

    /** All that can be reached from i by one step or more without coming to one of those. */
    private Set<Integer> reach(int i, Set<Integer> without) {
        Set<Integer> seen = new TreeSet<>();
        List<Integer> todo = new ArrayList<>(nexts(i));
        while (!todo.isEmpty()) {
            int j = todo.remove(todo.size() - 1);
            if (!without.contains(j) && seen.add(j)) {
                todo.addAll(nexts(j));
            }
        }
        return seen;
    }

    private boolean halts(Set<Integer> among) {
        for (int i : among) {
            if (code.get(i)[0] == 15) {
                return true;
            }
        }
        return false;
    }

    private int nextOf(int zero) {
        if (!halts(reach(zero, Set.of()))) {
            return -1;
        }
        Set<Integer> needed = new TreeSet<>();
        for (int c = 0; c < code.size(); c++) {
            if (c != zero && !halts(reach(zero, Set.of(c)))) {
                needed.add(c);
            }
        }
        for (int c : needed) {
            Set<Integer> others = new TreeSet<>(needed);
            others.remove(c);
            if (reach(zero, others).contains(c)) {
                return c;
            }
        }
        return -1;
    }

    private static final int[] TAKES = {0, 0, 1, 1, 2, 2, 2, 2, 2, 2, 2, 1, 0, 0, 1, 0};
    private static final int[] PUTS = {1, 1, 0, 1, 0, 1, 1, 1, 1, 1, 1, 0, 0, 1, 0, 0};

    private void checkHeights(Maps m) {
        int size = code.size();
        for (int i = 0; i < size; i++) {
            int operation = code.get(i)[0];
            int x = code.get(i)[1];
            boolean fits = true;
            if (operation >= 1 && operation <= 4) {
                fits = 0 <= x && x <= 25;
            } else if (operation == 13 || operation == 14) {
                fits = isLabel(x);
            } else if (operation == 11 || operation == 12) {
                fits = 0 <= x && x < size;
            }
            if (!fits) {
                throw new Bad(i, 1);
            }
        }
        int end = code.get(size - 1)[0];
        if (end != 12 && end != 15) {
            throw new Bad(size - 1, 2);
        }
        m.heights = new Integer[size];
        m.heights[0] = 0;
        Set<Integer> looked = new HashSet<>();
        boolean more = true;
        while (more) {
            more = false;
            for (int i = 0; i < size && !more; i++) {
                if (m.heights[i] != null && looked.add(i)) {
                    more = true;
                    int operation = code.get(i)[0];
                    int left = m.heights[i] - TAKES[operation];
                    int behind = left + PUTS[operation];
                    if (left < 0 || behind > 30) {
                        throw new Bad(i, 3);
                    }
                    if ((operation == 11 || operation == 12) && left > 0) {
                        throw new Bad(i, 4);
                    }
                    for (int j : nexts(i)) {
                        if (m.heights[j] == null) {
                            m.heights[j] = behind;
                        } else if (m.heights[j] != behind) {
                            throw new Bad(i, 5);
                        }
                    }
                }
            }
        }
    }

    private boolean raise(int[] row, int k, int l) {
        int old = row[k];
        row[k] = join(old, l);
        return row[k] != old;
    }

    private int taken(Maps m, int i) {
        int l = m.levels[i];
        for (int k = 1; k <= TAKES[code.get(i)[0]]; k++) {
            l = join(l, m.stacks[i][m.heights[i] - k]);
        }
        return l;
    }

    private void solve(Maps m) {
        int size = code.size();
        int bottom = bottom();
        m.levels = new int[size];
        m.variables = new int[size][26];
        m.stacks = new int[size][31];
        for (int i = 0; i < size; i++) {
            m.levels[i] = bottom;
            java.util.Arrays.fill(m.variables[i], bottom);
            java.util.Arrays.fill(m.stacks[i], bottom);
        }
        boolean changes = true;
        while (changes) {
            changes = false;
            for (int v = 0; v < 26; v++) {
                changes |= fixed[v] >= 0 && raise(m.variables[0], v, fixed[v]);
            }
            for (int i = size - 1; i >= 0; i--) {
                if (m.heights[i] != null) {
                    changes |= solveOne(m, i);
                }
            }
        }
    }

    private boolean solveOne(Maps m, int i) {
        boolean changes = false;
        int operation = code.get(i)[0];
        int x = code.get(i)[1];
        int all = taken(m, i);
        if (operation == 11) {
            for (int j : m.regions.get(i)) {
                changes |= raise(m.levels, j, all);
            }
        }
        int[] variables = m.variables[i].clone();
        int[] stack = m.stacks[i].clone();
        int left = m.heights[i] - TAKES[operation];
        if (PUTS[operation] == 1) {
            int source = operation == 1 ? variables[x] : operation == 3 && rows[x] >= 0 ? rows[x]
                    : operation == 13 ? x : bottom();
            stack[left] = join(all, source);
        }
        if (operation == 2 && fixed[x] < 0) {
            variables[x] = all;
        }
        for (int j : nexts(i)) {
            for (int v = 0; v < 26; v++) {
                changes |= raise(m.variables[j], v, variables[v]);
            }
            for (int k = 0; k < left + PUTS[operation]; k++) {
                changes |= raise(m.stacks[j], k, stack[k]);
            }
        }
        return changes;
    }

    private void checkFlows(Maps m) {
        for (int i = 0; i < code.size(); i++) {
            if (m.heights[i] == null) {
                continue;
            }
            int operation = code.get(i)[0];
            int x = code.get(i)[1];
            int limit = -1;
            if (operation == 2) {
                limit = fixed[x];
            } else if (operation == 4) {
                limit = rows[x] < 0 ? bottom() : rows[x];
            } else if (operation == 13 || operation == 14) {
                limit = x;
            }
            if (limit >= 0 && !under[taken(m, i)][limit]) {
                throw new Bad(i, 6);
            }
        }
    }

    int verify() {
        state(isSealed && !code.isEmpty());
        Maps m = new Maps();
        maps = null;
        isVerified = false;
        try {
            checkHeights(m);
            m.next = new int[code.size()];
            for (int i = 0; i < code.size(); i++) {
                m.next[i] = -1;
                m.regions.add(new TreeSet<>());
                if (code.get(i)[0] == 11 && m.heights[i] != null) {
                    m.next[i] = nextOf(i);
                    m.regions.set(i, reach(i, Set.of(m.next[i])));
                }
            }
            solve(m);
            maps = m;
            checkFlows(m);
        } catch (Bad bad) {
            place = bad.at;
            kind = bad.why;
            throw new UnsupportedOperationException();
        }
        place = -1;
        kind = -1;
        isVerified = true;
        int count = 0;
        for (Integer height : m.heights) {
            count += height == null ? 0 : 1;
        }
        return count;
    }

    int map(int i, int what) {
        argument(0 <= what && what <= 57);
        state(maps != null);
        if (i < 0 || i >= code.size()) {
            throw new NoSuchElementException();
        }
        if (maps.heights[i] == null) {
            return -2;
        }
        if (what < 26) {
            return maps.variables[i][what];
        }
        if (what == 26) {
            return maps.levels[i];
        }
        if (what == 27) {
            return maps.heights[i];
        }
        return what - 28 < maps.heights[i] ? maps.stacks[i][what - 28] : -1;
    }

    int region(int i, int q) {
        argument(-1 <= q && q <= 63);
        state(maps != null);
        if (i < 0 || i >= code.size() || q >= code.size()) {
            throw new NoSuchElementException();
        }
        if (code.get(i)[0] != 11 || maps.heights[i] == null) {
            throw new UnsupportedOperationException();
        }
        return q < 0 ? maps.next[i] : maps.regions.get(i).contains(q) ? 1 : 0;
    }

    // ---- doing

    int feed(int label, int v) {
        argument(isLabel(label));
        state(inputs.get(label).size() < 20);
        inputs.get(label).add(v);
        return inputs.get(label).size();
    }

    int drain(int label) {
        argument(isLabel(label));
        int size = inputs.get(label).size();
        inputs.get(label).clear();
        return size;
    }

    private static final class End extends RuntimeException {
        private static final long serialVersionUID = 1;
        final int how;

        End(int how) {
            this.how = how;
        }
    }

    private int[] eaten;
    private int fuel;

    private void start(int given) {
        values = new int[234];
        eaten = new int[n];
        fuel = given;
        fuelTaken = 0;
        for (List<Integer> output : outputs) {
            output.clear();
        }
    }

    private void burn() {
        if (fuelTaken == fuel) {
            throw new End(3);
        }
        fuelTaken++;
    }

    private int eat(int label) {
        List<Integer> input = inputs.get(label);
        return eaten[label] < input.size() ? input.get(eaten[label]++) : 0;
    }

    private void write(int label, int v) {
        if (outputs.get(label).size() == 20) {
            throw new End(4);
        }
        outputs.get(label).add(v);
    }

    private int cell(int row, int i) {
        if (i < 0 || i > 7) {
            throw new End(2);
        }
        return 26 + 8 * row + i;
    }

    private int reckon(String sign, int p, int q) {
        switch (sign) {
            case "+": return (int) ((long) p + q);
            case "-": return (int) ((long) p - q);
            case "*": return (int) ((long) p * q);
            case "/":
                if (q == 0) {
                    throw new End(1);
                }
                return (int) ((long) p / q);
            case "<": return p < q ? 1 : 0;
            default: return p == q ? 1 : 0;
        }
    }

    int run(int given) {
        argument(1 <= given && given <= 600);
        if (!isVerified) {
            throw new UnsupportedOperationException();
        }
        start(given);
        java.util.ArrayDeque<Integer> stack = new java.util.ArrayDeque<>();
        int at = 0;
        try {
            while (true) {
                burn();
                int operation = code.get(at)[0];
                int x = code.get(at)[1];
                at++;
                switch (operation) {
                    case 0: stack.push(x); break;
                    case 1: stack.push(values[x]); break;
                    case 2: values[x] = stack.pop(); break;
                    case 3: stack.push(values[cell(x, stack.pop())]); break;
                    case 4:
                        int v = stack.pop();
                        values[cell(x, stack.pop())] = v;
                        break;
                    case 11: at = stack.pop() == 0 ? x : at; break;
                    case 12: at = x; break;
                    case 13: stack.push(eat(x)); break;
                    case 14: write(x, stack.pop()); break;
                    case 15: throw new End(0);
                    default:
                        int q = stack.pop();
                        int p = stack.pop();
                        stack.push(reckon("+-*/<=".substring(operation - 5, operation - 4), p, q));
                }
            }
        } catch (End end) {
            return end.how;
        }
    }

    private int worth(Tree e) {
        switch (e.kind) {
            case "number": return e.x;
            case "variable": return values[e.x];
            case "at": return values[cell(e.x, worth(e.parts.get(0)))];
            default: return reckon(e.kind, worth(e.parts.get(0)), worth(e.parts.get(1)));
        }
    }

    private void act(List<Tree> block) {
        for (Tree s : block) {
            burn();
            switch (s.kind) {
                case "set": values[s.x] = worth(s.parts.get(0)); break;
                case "row":
                    int i = worth(s.parts.get(0));
                    int v = worth(s.parts.get(1));
                    values[cell(s.x, i)] = v;
                    break;
                case "in": values[s.x] = eat(s.y); break;
                case "out": write(s.y, worth(s.parts.get(0))); break;
                case "if": act(worth(s.parts.get(0)) != 0 ? s.block : s.other); break;
                case "while":
                    while (worth(s.parts.get(0)) != 0) {
                        act(s.block);
                        burn();
                    }
                    break;
                default: act(program.procs.get(s.x));
            }
        }
    }

    int walk(int given) {
        argument(1 <= given && given <= 600);
        if (program == null) {
            throw new UnsupportedOperationException();
        }
        start(given);
        try {
            act(program.block);
            return 0;
        } catch (End end) {
            return end.how;
        }
    }

    int output(int label, int i) {
        argument(isLabel(label) && i >= 0);
        if (i >= outputs.get(label).size()) {
            throw new NoSuchElementException();
        }
        return outputs.get(label).get(i);
    }

    int value(int i) {
        argument(0 <= i && i <= 233);
        return values[i];
    }

    int instruction(int i, boolean argument) {
        if (i < 0 || i >= code.size()) {
            throw new NoSuchElementException();
        }
        return code.get(i)[argument ? 1 : 0];
    }

    int count(int what) {
        argument(0 <= what && what <= 8);
        int[] all = {n, isSealed ? 1 : 0, text.length(), code.size(), isVerified ? 1 : 0,
            program != null ? 1 : 0, fuelTaken, place, kind};
        return all[what];
    }
}
