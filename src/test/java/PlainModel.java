import java.util.ArrayList;
import java.util.Arrays;
import java.util.HashMap;
import java.util.List;
import java.util.Map;

/**
 * The document once more, written another way: real Java arrays as COLUMNS, the grammar as it
 * stands, a tree of sums, code made from the tree, and Java's own arithmetic on boxed numbers.
 * ModelTest holds QueryClasses against it.
 */
final class PlainModel {
    static final class TextFault extends RuntimeException {
        private static final long serialVersionUID = 1L;
        final int kind;
        final int place;

        TextFault(int kind, int place) {
            this.kind = kind;
            this.place = place;
        }
    }

    static final class RunFault extends RuntimeException {
        private static final long serialVersionUID = 1L;
        final int kind;

        RunFault(int kind) {
            this.kind = kind;
        }
    }

    static final class Node {
        final String what;
        final int kind;
        final int number;
        final Node[] of;

        Node(String what, int kind, int number, Node... of) {
            this.what = what;
            this.kind = kind;
            this.number = number;
            this.of = of;
        }
    }

    static final class Asked {
        String form;
        String how = "";
        boolean ordered;
        boolean down;
        int first = Integer.MAX_VALUE;
        int target = -1;
        boolean by;
        int sumKind;
        final List<Double> reals = new ArrayList<>();
        final List<List<int[]>> code = new ArrayList<>();
    }

    static final class Group {
        long key;
        int members;
        Object value;
    }

    private static final int T = 0, I = 1, J = 2, F = 3, D = 4;
    private static final String[] SIGNS = {">>>", "!=", "<=", ">=", "<<", ">>", ":=", "+", "-", "*", "/",
        "%", "&", "|", "^", "~", "(", ")", "[", "]", ",", "=", "<", ">", "?", ":"};
    private static final List<String> RELATIONS = List.of("=", "!=", "<", ">", "<=", ">=");
    private static final Map<String, Integer> OPS = new HashMap<>();
    static {
        String[] signs = {"+", "-", "*", "/", "%", "&", "|", "^", "<<", ">>", ">>>"};
        for (int i = 0; i < signs.length; i++) {
            OPS.put(signs[i], 100 * (i + 1));
        }
    }

    int objects;
    final Object[] columns = new Object[10];
    StringBuilder tape = new StringBuilder();
    final List<Asked> queries = new ArrayList<>();
    int fault;

    int ranQuery = -1, ranFault, ranPart = -1, ranAct = -1, ranDone;
    List<Integer> hits = new ArrayList<>();
    List<Double> scores = new ArrayList<>();
    List<Group> groups;

    // ---- columns

    static Object newRow(int lane, int n) {
        switch (lane) {
            case 0: return new boolean[n];
            case 1: return new byte[n];
            case 2: return new short[n];
            case 3: return new char[n];
            case 4: return new int[n];
            case 5: return new long[n];
            case 6: return new float[n];
            default: return new double[n];
        }
    }

    static int lane(Object row) {
        Class<?>[] all = {boolean[].class, byte[].class, short[].class, char[].class, int[].class, long[].class,
            float[].class, double[].class};
        return row == null ? -1 : Arrays.asList(all).indexOf(row.getClass());
    }

    static int size(Object row) {
        return row == null ? -1 : java.lang.reflect.Array.getLength(row);
    }

    private static boolean isColumn(int c) {
        return c >= 0 && c <= 9;
    }

    int objects(int n) {
        if (n < 0 || n > 16) return -1;
        int was = objects;
        objects = n;
        return was;
    }

    int column(int c, int lane, int n) {
        if (!isColumn(c) || lane < 0 || lane > 7 || n < 0 || n > 16) return -1;
        columns[c] = newRow(lane, n);
        return 1;
    }

    int share(int c, int d) {
        if (!isColumn(c) || !isColumn(d)) return -1;
        columns[c] = columns[d];
        return 1;
    }

    int drop(int c) {
        if (!isColumn(c)) return -1;
        boolean was = columns[c] != null;
        columns[c] = null;
        return was ? 1 : 0;
    }

    int put(int c, int i, long v) {
        if (!isColumn(c)) return -1;
        Object row = columns[c];
        if (row == null) return -3;
        if (i < 0 || i >= size(row)) return -1;
        switch (lane(row)) {
            case 0: ((boolean[]) row)[i] = v != 0; break;
            case 1: ((byte[]) row)[i] = (byte) v; break;
            case 2: ((short[]) row)[i] = (short) v; break;
            case 3: ((char[]) row)[i] = (char) v; break;
            case 4: ((int[]) row)[i] = (int) v; break;
            case 5: ((long[]) row)[i] = v; break;
            case 6:
                if (Float.isNaN(Float.intBitsToFloat((int) v))) return -1;
                ((float[]) row)[i] = Float.intBitsToFloat((int) v);
                break;
            default:
                if (Double.isNaN(Double.longBitsToDouble(v))) return -1;
                ((double[]) row)[i] = Double.longBitsToDouble(v);
        }
        return 1;
    }

    static long bits(Object v) {
        if (v instanceof Boolean) return (Boolean) v ? 1 : 0;
        if (v instanceof Character) return (Character) v;
        if (v instanceof Float) return Float.floatToRawIntBits((Float) v);
        if (v instanceof Double) return Double.doubleToRawLongBits((Double) v);
        return ((Number) v).longValue();
    }

    long cell(int c, int i) {
        if (!isColumn(c) || i < 0 || i >= size(columns[c])) return Long.MIN_VALUE;
        return bits(java.lang.reflect.Array.get(columns[c], i));
    }

    int about(int c, int what) {
        if (!isColumn(c) || what < 0 || what > 2) return -2;
        if (what == 0) return lane(columns[c]);
        if (what == 1) return size(columns[c]);
        int d = 0;
        while (columns[d] != columns[c]) d++;
        return d;
    }

    int count(int what) {
        switch (what) {
            case 0: return objects;
            case 1: return (int) Arrays.stream(columns).filter(r -> r != null).count();
            case 2: return queries.size();
            case 3: return tape.length();
            default: return -1;
        }
    }

    int clear() {
        int was = queries.size();
        queries.clear();
        forgetRun();
        return was;
    }

    private void forgetRun() {
        ranQuery = -1;
        ranFault = 0;
        ranPart = -1;
        ranAct = -1;
        ranDone = 0;
        hits = new ArrayList<>();
        scores = new ArrayList<>();
        groups = null;
    }

    // ---- the tape

    int feed(int a, int b, int c, int d, int e) {
        if (tape.length() + 20 > 400) return -2;
        for (int v : new int[] {a, b, c, d, e}) {
            for (int s = 24; s >= 0; s -= 8) tape.append((char) (v >> s & 255));
        }
        return tape.length();
    }

    int end(int n) {
        if (n < 0 || n > tape.length()) return -1;
        tape.setLength(n);
        return 1;
    }

    int query() {
        if (queries.size() == 12) return -2;
        text = tape.toString();
        tape = new StringBuilder();
        try {
            Asked made = read();
            fault = 0;
            queries.add(made);
            return queries.size() - 1;
        } catch (TextFault f) {
            fault = f.kind;
            return -10 - f.place;
        }
    }

    int acts(int q, int part) {
        if (q < 0 || q >= queries.size() || part < 0 || part > 2) return -1;
        return queries.get(q).code.get(part).size();
    }

    int act(int q, int part, int i, int what) {
        if (acts(q, part) < 0 || i < 0 || i >= acts(q, part) || what < 0 || what > 1) return -2;
        return queries.get(q).code.get(part).get(i)[what];
    }

    // ---- tokens

    private String text;
    private String token;
    private int place;
    private int behind;
    private int depth;
    private Asked asked;

    private void next() {
        int p = behind;
        while (p < text.length() && (text.charAt(p) == ' ' || text.charAt(p) == '\n')) p++;
        place = p;
        String rest = text.substring(p);
        if (rest.isEmpty()) {
            token = "";
        } else {
            token = longest(rest);
            if (token == null) throw new TextFault(1, p);
        }
        behind = p + token.length();
    }

    private static String longest(String rest) {
        String found = match("[a-z]+", rest);
        if (found == null && (found = match("[0-9]+[.][0-9]+", rest)) != null && found.length() > 10) return null;
        if (found == null && (found = match("[0-9]+", rest)) != null
                && new java.math.BigInteger(found).bitLength() > 31) return null;
        if (found == null) found = match("[$][0-9]", rest);
        for (int i = 0; found == null && i < SIGNS.length; i++) {
            if (rest.startsWith(SIGNS[i])) found = SIGNS[i];
        }
        return found;
    }

    private static String match(String pattern, String rest) {
        java.util.regex.Matcher m = java.util.regex.Pattern.compile(pattern, java.util.regex.Pattern.DOTALL).matcher(rest);
        return m.lookingAt() ? m.group() : null;
    }

    private boolean at(String... any) {
        return Arrays.asList(any).contains(token);
    }

    private boolean atNumber() {
        return token.matches("[0-9]+");
    }

    private void must(boolean can) {
        if (!can) throw new TextFault(2, place);
    }

    private int take(String wanted) {
        must(at(wanted));
        int p = place;
        next();
        return p;
    }

    private void opens() {
        if (depth == 12) throw new TextFault(3, place);
        depth++;
    }

    private static void fits(boolean fit, int p) {
        if (!fit) throw new TextFault(4, p);
    }

    private static boolean whole(Node n) {
        return n.kind == I || n.kind == J;
    }

    // ---- grammar

    private Asked read() {
        asked = new Asked();
        for (int i = 0; i < 3; i++) asked.code.add(new ArrayList<>());
        behind = 0;
        depth = 0;
        next();
        must(at("find", "fold", "set"));
        asked.form = token;
        next();
        Node[] trees = new Node[3];
        if (asked.form.equals("find")) find(trees);
        if (asked.form.equals("fold")) fold(trees);
        if (asked.form.equals("set")) set(trees);
        must(token.isEmpty());
        for (int p = 0; p < 3; p++) {
            List<int[]> code = asked.code.get(p);
            if (trees[p] != null) code.addAll(flat(trees[p]));
            if (code.size() > 200 || pileOf(code) > 24) throw new TextFault(6, text.length());
        }
        return asked;
    }

    private void find(Node[] trees) {
        trees[0] = or();
        fits(trees[0].kind == T, place);
        if (at("order")) {
            next();
            Node s = sum();
            fits(s.kind != T, place);
            trees[1] = become(s, D);
            asked.ordered = true;
            if (at("down")) {
                asked.down = true;
                next();
            }
        }
        if (at("first")) {
            next();
            must(atNumber());
            asked.first = Integer.parseInt(token);
            next();
        }
    }

    private void fold(Node[] trees) {
        must(at("count", "sum", "min", "max", "mean"));
        asked.how = token;
        next();
        if (!asked.how.equals("count")) {
            Node s = sum();
            fits(s.kind != T, place);
            asked.sumKind = s.kind;
            if (asked.how.equals("sum")) s = become(s, whole(s) ? J : D);
            if (asked.how.equals("mean")) s = become(s, D);
            trees[1] = s;
        }
        where(trees);
        if (at("by")) {
            next();
            asked.by = true;
            trees[2] = sum();
            fits(whole(trees[2]), place);
        }
    }

    private void where(Node[] trees) {
        if (at("where")) {
            next();
            trees[0] = or();
            fits(trees[0].kind == T, place);
        }
    }

    private void set(Node[] trees) {
        must(token.startsWith("$"));
        int c = token.charAt(1) - '0';
        if (columns[c] == null) throw new TextFault(5, place);
        int lane = lane(columns[c]);
        next();
        int p = take(":=");
        Node s = sum();
        fits((s.kind == T) == (lane == 0), p);
        s = become(s, kindOf(lane));
        if (lane >= 1 && lane <= 3) s = new Node("one", I, 1650 + lane, s);
        asked.target = c;
        trees[1] = new Node("two", T, 20 + lane, new Node("leaf", I, 3), s, new Node("arg", T, c));
        where(trees);
    }

    static int kindOf(int lane) {
        return lane == 0 ? T : lane < 5 ? I : lane - 3;
    }

    private Node sum() {
        Node a = or();
        if (!at("?")) return a;
        opens();
        fits(a.kind == T, place);
        next();
        Node b = sum();
        int p = take(":");
        Node c = sum();
        depth--;
        fits((b.kind == T) == (c.kind == T), p);
        int k = Math.max(b.kind, c.kind);
        return new Node("choice", k, 0, a, become(b, k), become(c, k));
    }

    private Node or() {
        Node a = and();
        while (at("or")) {
            int p = take("or");
            Node b = and();
            fits(a.kind == T && b.kind == T, p);
            a = new Node("or", T, 0, a, b);
        }
        return a;
    }

    private Node and() {
        Node a = not();
        while (at("and")) {
            int p = take("and");
            Node b = not();
            fits(a.kind == T && b.kind == T, p);
            a = new Node("and", T, 0, a, b);
        }
        return a;
    }

    private Node not() {
        if (!at("not")) return test();
        opens();
        int p = take("not");
        Node a = not();
        depth--;
        fits(a.kind == T, p);
        return new Node("one", T, 1810, a);
    }

    private Node test() {
        Node a = mix();
        if (!RELATIONS.contains(token)) return a;
        String s = token;
        int p = take(s);
        Node b = mix();
        boolean truths = a.kind == T && b.kind == T && (s.equals("=") || s.equals("!="));
        fits(truths || a.kind != T && b.kind != T, p);
        int k = Math.max(a.kind, b.kind);
        Node compared = new Node("two", I, 1400 + Math.max(k, 1), become(a, k), become(b, k));
        return new Node("one", T, 1500 + RELATIONS.indexOf(s), compared);
    }

    private Node mix() {
        Node a = shift();
        while (at("&", "|", "^")) {
            String s = token;
            int p = take(s);
            Node b = shift();
            fits(a.kind == T && b.kind == T || whole(a) && whole(b), p);
            a = both(s, a, b);
        }
        return a;
    }

    private Node shift() {
        Node a = plus();
        while (at("<<", ">>", ">>>")) {
            String s = token;
            int p = take(s);
            Node b = plus();
            fits(whole(a) && whole(b), p);
            a = new Node("two", a.kind, OPS.get(s) + a.kind, a, become(b, I));
        }
        return a;
    }

    private Node plus() {
        Node a = times();
        while (at("+", "-")) {
            String s = token;
            int p = take(s);
            Node b = times();
            fits(a.kind != T && b.kind != T, p);
            a = both(s, a, b);
        }
        return a;
    }

    private Node times() {
        Node a = sign();
        while (at("*", "/", "%")) {
            String s = token;
            int p = take(s);
            Node b = sign();
            fits(a.kind != T && b.kind != T, p);
            a = both(s, a, b);
        }
        return a;
    }

    private Node both(String s, Node a, Node b) {
        int k = Math.max(a.kind, b.kind);
        return new Node("two", k, OPS.get(s) + Math.max(k, 1), become(a, k), become(b, k));
    }

    private Node sign() {
        if (!at("-", "~")) return part();
        opens();
        boolean minus = at("-");
        int p = take(token);
        Node a = sign();
        depth--;
        fits(minus ? a.kind != T : whole(a), p);
        return new Node("one", a.kind, (minus ? 1200 : 1300) + a.kind, a);
    }

    private Node part() {
        String s = token;
        if (atNumber()) {
            next();
            return new Node("leaf", I, 1, new Node("arg", T, Integer.parseInt(s)));
        }
        if (s.matches("[0-9]+[.][0-9]+")) {
            int after = s.length() - 1 - s.indexOf('.');
            asked.reals.add(Long.parseLong(s.replace(".", "")) / Math.pow(10, after));
            next();
            return new Node("leaf", D, 2, new Node("arg", T, asked.reals.size() - 1));
        }
        if (at("row")) {
            next();
            return new Node("leaf", I, 3);
        }
        if (at("yes", "no")) {
            next();
            return new Node("leaf", T, 1, new Node("arg", T, s.equals("yes") ? 1 : 0));
        }
        if (s.startsWith("$")) return columnPart(s.charAt(1) - '0');
        if (at("(")) {
            opens();
            next();
            Node a = sum();
            take(")");
            depth--;
            return a;
        }
        return call(s);
    }

    private Node columnPart(int c) {
        if (columns[c] == null) throw new TextFault(5, place);
        int lane = lane(columns[c]);
        next();
        Node index = new Node("leaf", I, 3);
        if (at("[")) {
            int p = place;
            opens();
            next();
            index = sum();
            take("]");
            depth--;
            fits(index.kind == I, p);
        }
        return new Node("one", kindOf(lane), 10 + lane, index, new Node("arg", T, c));
    }

    private Node call(String fn) {
        List<String> rounders = List.of("floor", "ceil", "rint");
        List<String> narrow = List.of("byte", "short", "char");
        List<String> casts = List.of("int", "long", "float", "double");
        boolean two = at("min", "max");
        must(two || at("abs", "sign") || rounders.contains(fn) || narrow.contains(fn) || casts.contains(fn));
        next();
        must(at("("));
        int p = place;
        opens();
        next();
        Node a = sum();
        Node b = null;
        if (two) {
            take(",");
            b = sum();
        }
        take(")");
        depth--;
        fits(a.kind != T && (b == null || b.kind != T), p);
        if (two) {
            int k = Math.max(a.kind, b.kind);
            return new Node("two", k, (fn.equals("min") ? 1750 : 1760) + k, become(a, k), become(b, k));
        }
        if (fn.equals("abs")) return new Node("one", a.kind, 1700 + a.kind, a);
        if (fn.equals("sign")) {
            Node made = whole(a) ? become(a, D) : a;
            return new Node("one", made.kind, 1740 + made.kind, made);
        }
        if (rounders.contains(fn)) return new Node("one", D, 1714 + 10 * rounders.indexOf(fn), become(a, D));
        if (narrow.contains(fn)) return new Node("one", I, 1651 + narrow.indexOf(fn), become(a, I));
        return become(a, casts.indexOf(fn) + 1);
    }

    private static Node become(Node n, int k) {
        return n.kind == k ? n : new Node("one", k, 1600 + 10 * n.kind + k, n);
    }

    // ---- code

    private static List<int[]> flat(Node n) {
        List<int[]> out = new ArrayList<>();
        int a = 0;
        for (Node child : n.of) {
            if (child.what.equals("arg")) a = child.number;
        }
        switch (n.what) {
            case "and":
            case "or":
                boolean or = n.what.equals("or");
                join(out, flat(n.of[0]));
                List<int[]> y = flat(n.of[1]);
                int from = out.size();
                out.add(new int[] {or ? 1801 : 1800, from + 1 + y.size() + 1});
                join(out, y);
                out.add(new int[] {1802, from + 1 + y.size() + 2});
                out.add(new int[] {1, or ? 1 : 0});
                return out;
            case "choice":
                join(out, flat(n.of[0]));
                List<int[]> left = flat(n.of[1]);
                List<int[]> right = flat(n.of[2]);
                int start = out.size();
                out.add(new int[] {1800, start + left.size() + 2});
                join(out, left);
                out.add(new int[] {1802, start + left.size() + 2 + right.size()});
                join(out, right);
                return out;
            default:
                for (Node child : n.of) {
                    if (!child.what.equals("arg")) join(out, flat(child));
                }
                out.add(new int[] {n.number, a});
                return out;
        }
    }

    private static void join(List<int[]> out, List<int[]> more) {
        int base = out.size();
        for (int[] act : more) {
            boolean jump = act[0] >= 1800 && act[0] <= 1802;
            out.add(new int[] {act[0], jump ? act[1] + base : act[1]});
        }
    }

    /** The greatest height over all ways through the code. */
    private static int pileOf(List<int[]> code) {
        int[] height = new int[code.size() + 1];
        Arrays.fill(height, -1);
        height[0] = 0;
        int most = 0;
        for (int i = 0; i < code.size(); i++) {
            int op = code.get(i)[0];
            if (height[i] < 0) throw new IllegalStateException("never reached");
            int after = height[i] + change(op);
            most = Math.max(most, after);
            if (op >= 1800 && op <= 1802) reach(height, code.get(i)[1], after);
            if (op != 1802) reach(height, i + 1, after);
        }
        return most;
    }

    private static void reach(int[] height, int at, int h) {
        if (height[at] >= 0 && height[at] != h) throw new IllegalStateException("two heights");
        height[at] = h;
    }

    private static int change(int op) {
        if (op <= 3) return 1;
        if (op >= 10 && op < 20) return 0;
        if (op >= 20 && op < 30) return -2;
        if (op > 100 && op < 1200) return -1;
        if (op > 1400 && op < 1500) return -1;
        if (op > 1750 && op < 1770) return -1;
        if (op == 1800 || op == 1801) return -1;
        return 0;
    }

    // ---- runs

    int run(int q) {
        if (q < 0 || q >= queries.size()) return -1;
        forgetRun();
        Asked a = queries.get(q);
        ranQuery = q;
        Object[] saved = new Object[10];
        if (a.target >= 0 && columns[a.target] != null) saved[0] = copy(columns[a.target]);
        if (a.form.equals("fold")) {
            groups = new ArrayList<>();
            if (!a.by) groups.add(newGroup(a, 0));
        }
        for (int o = 0; o < objects; o++) {
            try {
                visit(a, o);
            } catch (RunFault f) {
                ranFault = f.kind;
                if (saved[0] != null) System.arraycopy(saved[0], 0, columns[a.target], 0, size(saved[0]));
                hits.clear();
                if (groups != null) groups.clear();
                return -10 - o;
            }
        }
        if (a.ordered) sortHits(a.down);
        while (hits.size() > a.first) {
            hits.remove(hits.size() - 1);
            scores.remove(scores.size() - 1);
        }
        return told(4);
    }

    private static Object copy(Object row) {
        Object made = newRow(lane(row), size(row));
        System.arraycopy(row, 0, made, 0, size(row));
        return made;
    }

    private static Group newGroup(Asked a, long key) {
        Group g = new Group();
        g.key = key;
        Object[] zeros = {null, 0, 0L, 0f, 0d};
        if (a.how.equals("count")) g.value = 0L;
        else if (a.how.equals("sum")) g.value = a.sumKind <= J ? (Object) 0L : (Object) 0d;
        else if (a.how.equals("mean")) g.value = 0d;
        else g.value = zeros[a.sumKind];
        return g;
    }

    private void visit(Asked a, int o) {
        if (!a.code.get(0).isEmpty() && (Integer) perform(a, 0, o) == 0) return;
        Object v = perform(a, 1, o);
        Object key = perform(a, 2, o);
        ranPart = -1;
        ranAct = -1;
        if (!a.form.equals("fold")) {
            hits.add(o);
            scores.add(a.ordered ? (Double) v : 0d);
            return;
        }
        ranPart = 3;
        ranAct = 0;
        long k = a.by ? ((Number) key).longValue() : 0;
        Group g = null;
        for (Group one : groups) if (one.key == k) g = one;
        if (g == null) {
            if (groups.size() == 8) throw new RunFault(6);
            g = newGroup(a, k);
            groups.add(g);
        }
        g.value = folded(a.how, g, v);
        g.members++;
        ranPart = -1;
        ranAct = -1;
    }

    private static Object folded(String how, Group g, Object v) {
        switch (how) {
            case "count": return (Long) g.value + 1;
            case "min": return g.members == 0 ? v : binary(1750 + kind(v), g.value, v);
            case "max": return g.members == 0 ? v : binary(1760 + kind(v), g.value, v);
            default: return binary(100 + kind(v), g.value, v);
        }
    }

    private void sortHits(boolean down) {
        List<Integer> order = new ArrayList<>();
        for (int i = 0; i < hits.size(); i++) order.add(i);
        List<Double> s = scores;
        order.sort((x, y) -> {
            double p = s.get(x);
            double r = s.get(y);
            int c = p < r ? -1 : p > r ? 1 : 0;
            return down ? -c : c;
        });
        List<Integer> h = new ArrayList<>();
        List<Double> t = new ArrayList<>();
        for (int i : order) {
            h.add(hits.get(i));
            t.add(scores.get(i));
        }
        hits = h;
        scores = t;
    }

    private static int kind(Object v) {
        return v instanceof Integer ? I : v instanceof Long ? J : v instanceof Float ? F : D;
    }

    private Object perform(Asked a, int part, int o) {
        List<int[]> code = a.code.get(part);
        List<Object> pile = new ArrayList<>();
        int pc = 0;
        while (pc < code.size()) {
            ranPart = part;
            ranAct = pc;
            int op = code.get(pc)[0];
            int n = code.get(pc)[1];
            pc++;
            if (op == 1) pile.add(n);
            else if (op == 2) pile.add(a.reals.get(n));
            else if (op == 3) pile.add(o);
            else if (op < 20) pile.add(fetch(columns[n], op - 10, (Integer) pop(pile)));
            else if (op < 30) {
                Object v = pop(pile);
                store(columns[n], op - 20, (Integer) pop(pile), v);
            } else if (op == 1802) pc = n;
            else if (op == 1800 || op == 1801) {
                if ((Integer) pop(pile) == op - 1800) pc = n;
            } else if (change(op) < 0) {
                Object y = pop(pile);
                pile.add(binary(op, pop(pile), y));
            } else pile.add(unary(op, pop(pile)));
            ranDone++;
        }
        if (pile.size() > 1) throw new IllegalStateException("a pile is left");
        return pile.isEmpty() ? null : pile.get(0);
    }

    private static Object pop(List<Object> pile) {
        return pile.remove(pile.size() - 1);
    }

    private static void look(Object row, int lane, int i) {
        if (row == null) throw new RunFault(1);
        if (lane(row) != lane) throw new RunFault(3);
        if (i < 0 || i >= size(row)) throw new RunFault(2);
    }

    private static Object fetch(Object row, int lane, int i) {
        look(row, lane, i);
        switch (lane) {
            case 0: return ((boolean[]) row)[i] ? 1 : 0;
            case 1: return (int) ((byte[]) row)[i];
            case 2: return (int) ((short[]) row)[i];
            case 3: return (int) ((char[]) row)[i];
            default: return java.lang.reflect.Array.get(row, i);
        }
    }

    private static void store(Object row, int lane, int i, Object v) {
        look(row, lane, i);
        switch (lane) {
            case 0: ((boolean[]) row)[i] = (Integer) v != 0; break;
            case 1: ((byte[]) row)[i] = (byte) (int) (Integer) v; break;
            case 2: ((short[]) row)[i] = (short) (int) (Integer) v; break;
            case 3: ((char[]) row)[i] = (char) (int) (Integer) v; break;
            default: java.lang.reflect.Array.set(row, i, v);
        }
    }

    static Object unary(int op, Object v) {
        if (op >= 1500 && op < 1510) {
            int c = (Integer) v;
            boolean[] is = {c == 0, c != 0, c < 0, c > 0, c <= 0, c >= 0};
            return is[op - 1500] ? 1 : 0;
        }
        switch (op) {
            case 1201: return -(Integer) v;
            case 1202: return -(Long) v;
            case 1203: return -(Float) v;
            case 1204: return -(Double) v;
            case 1301: return ~(Integer) v;
            case 1302: return ~(Long) v;
            case 1612: return (long) (Integer) v;
            case 1613: return (float) (Integer) v;
            case 1614: return (double) (Integer) v;
            case 1621: return (int) (long) (Long) v;
            case 1623: return (float) (Long) v;
            case 1624: return (double) (Long) v;
            case 1631: return (int) (float) (Float) v;
            case 1632: return (long) (float) (Float) v;
            case 1634: return (double) (Float) v;
            case 1641: return (int) (double) (Double) v;
            case 1642: return (long) (double) (Double) v;
            case 1643: return (float) (double) (Double) v;
            case 1651: return (int) (byte) (int) (Integer) v;
            case 1652: return (int) (short) (int) (Integer) v;
            case 1653: return (int) (char) (int) (Integer) v;
            case 1701: return Math.abs((Integer) v);
            case 1702: return Math.abs((Long) v);
            case 1703: return Math.abs((Float) v);
            case 1704: return Math.abs((Double) v);
            case 1714: return Math.floor((Double) v);
            case 1724: return Math.ceil((Double) v);
            case 1734: return Math.rint((Double) v);
            case 1743: return Math.signum((Float) v);
            case 1744: return Math.signum((Double) v);
            case 1810: return 1 - (Integer) v;
            default: throw new IllegalStateException("no act " + op);
        }
    }

    static Object binary(int op, Object x, Object y) {
        int k = op % 10;
        if (op > 900 && op < 1200) return shifted(op / 100, x, (Integer) y);
        Object made;
        if (k == I) made = ints(op / 10 * 10, (Integer) x, (Integer) y);
        else if (k == J) made = longs(op / 10 * 10, (Long) x, (Long) y);
        else if (k == F) made = floats(op / 10 * 10, (Float) x, (Float) y);
        else made = doubles(op / 10 * 10, (Double) x, (Double) y);
        boolean lost = made instanceof Float && ((Float) made).isNaN() || made instanceof Double && ((Double) made).isNaN();
        if (lost) throw new RunFault(5);
        return made;
    }

    private static Object shifted(int group, Object x, int y) {
        if (x instanceof Long) {
            long v = (Long) x;
            return group == 9 ? v << y : group == 10 ? v >> y : v >>> y;
        }
        int v = (Integer) x;
        return group == 9 ? v << y : group == 10 ? v >> y : v >>> y;
    }

    private static Object ints(int op, int x, int y) {
        if ((op == 400 || op == 500) && y == 0) throw new RunFault(4);
        switch (op) {
            case 100: return x + y;
            case 200: return x - y;
            case 300: return x * y;
            case 400: return x / y;
            case 500: return x % y;
            case 600: return x & y;
            case 700: return x | y;
            case 800: return x ^ y;
            case 1400: return Integer.compare(x, y);
            case 1750: return Math.min(x, y);
            case 1760: return Math.max(x, y);
            default: throw new IllegalStateException("no act " + op);
        }
    }

    private static Object longs(int op, long x, long y) {
        if ((op == 400 || op == 500) && y == 0) throw new RunFault(4);
        switch (op) {
            case 100: return x + y;
            case 200: return x - y;
            case 300: return x * y;
            case 400: return x / y;
            case 500: return x % y;
            case 600: return x & y;
            case 700: return x | y;
            case 800: return x ^ y;
            case 1400: return Long.compare(x, y);
            case 1750: return Math.min(x, y);
            case 1760: return Math.max(x, y);
            default: throw new IllegalStateException("no act " + op);
        }
    }

    private static Object floats(int op, float x, float y) {
        switch (op) {
            case 100: return x + y;
            case 200: return x - y;
            case 300: return x * y;
            case 400: return x / y;
            case 500: return x % y;
            case 1400: return x < y ? -1 : x > y ? 1 : 0;
            case 1750: return Math.min(x, y);
            case 1760: return Math.max(x, y);
            default: throw new IllegalStateException("no act " + op);
        }
    }

    private static Object doubles(int op, double x, double y) {
        switch (op) {
            case 100: return x + y;
            case 200: return x - y;
            case 300: return x * y;
            case 400: return x / y;
            case 500: return x % y;
            case 1400: return x < y ? -1 : x > y ? 1 : 0;
            case 1750: return Math.min(x, y);
            case 1760: return Math.max(x, y);
            default: throw new IllegalStateException("no act " + op);
        }
    }

    // ---- what is told of the latest run

    int told(int what) {
        switch (what) {
            case 0: return ranFault;
            case 1: return ranFault == 0 ? -1 : ranPart;
            case 2: return ranFault == 0 ? -1 : ranAct;
            case 3: return ranDone;
            case 4: return groups != null ? groups.size() : hits.size();
            case 5: return ranQuery;
            default: return -2;
        }
    }

    int hit(int k) {
        if (k < 0 || k >= told(4)) return -1;
        return groups != null ? groups.get(k).members : hits.get(k);
    }

    long score(int k) {
        if (k < 0 || k >= told(4)) return Long.MIN_VALUE;
        return groups != null ? groups.get(k).key : bits(scores.get(k));
    }

    long value(int k) {
        if (groups == null || k < 0 || k >= told(4)) return Long.MIN_VALUE;
        Group g = groups.get(k);
        if (queries.get(ranQuery).how.equals("mean") && g.members > 0) return bits((Double) g.value / g.members);
        return bits(g.value);
    }
}
