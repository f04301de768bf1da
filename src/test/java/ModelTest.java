import java.util.Random;

/** Many runs of calls, on QueryClasses and on PlainModel at once: each answer is the same. */
public final class ModelTest {
    private static final String[] WORDS = {"find", "order", "down", "first", "fold", "count", "sum", "min", "max",
        "mean", "where", "by", "set", "or", "and", "not", "row", "yes", "no", "abs", "floor", "ceil", "rint", "sign",
        "byte", "short", "char", "int", "long", "float", "double", "x", "finds", "+", "-", "*", "/", "%", "&", "|", "^",
        "~", "(", ")", "[", "]", ",", "=", "!=", "<", ">", "<=", ">=", "<<", ">>", ">>>", "?", ":", ":=", "!", "$", ".",
        "0", "1", "7", "2147483647", "2147483648", "1.5", "0.25", "123456.789", "1234567.890", "$0", "$1", "$2", "$3",
        "$9", "A", "\n", "@"};
    private static final long[] DOUBLES = {0L, Long.MIN_VALUE, d(1), d(-1), d(0.5), d(-0.5), d(1.5), d(2.5), d(-2.5),
        d(1e300), d(-1e300), d(4.9e-324), d(-4.9e-324), d(2.2250738585072014e-308), d(2.225073858507201e-308),
        d(Double.MAX_VALUE), d(-Double.MAX_VALUE), d(Double.POSITIVE_INFINITY), d(Double.NEGATIVE_INFINITY),
        d(Double.NaN), d(3e9), d(-3e9), d(1e19), d(4503599627370495.5), d(4503599627370496.0), d(0.1), d(7)};
    private static final float[] FLOATS = {0f, -0f, 1f, -1f, 0.5f, -1.5f, 2.5f, 1e30f, -1e30f, 1.4e-45f, -1.4e-45f,
        1.17549435E-38f, 1.1754942E-38f, Float.MAX_VALUE, -Float.MAX_VALUE, Float.POSITIVE_INFINITY,
        Float.NEGATIVE_INFINITY, Float.NaN, 0.1f, 3e9f, 7f, 16777217f};
    private static final long[] WHOLES = {0, 1, -1, 2, 3, -2, 5, 7, 31, 32, 63, 64, 100, 127, 128, -128, -129, 255, 256,
        32767, 32768, 65535, 65536, 2147483647L, -2147483648L, 2147483648L, 4294967296L, Long.MAX_VALUE, Long.MIN_VALUE};

    private final Check check = new Check("ModelTest");
    private final Random random = new Random(20261118);
    private QueryClasses x;
    private PlainModel m;

    private static long d(double v) {
        return Double.doubleToRawLongBits(v);
    }

    public static void main(String[] args) {
        ModelTest t = new ModelTest();
        int rounds = args.length > 0 ? Integer.parseInt(args[0]) : 3000;
        for (int i = 0; i < rounds && !t.check.isWrong(); i++) {
            t.round(i);
        }
        t.check.close();
    }

    private void due(String call, long got, long want) {
        check.due(call, got, want);
    }

    private void round(int i) {
        x = new QueryClasses();
        m = new PlainModel();
        int n = random.nextInt(10) == 0 ? random.nextInt(17) : 1 + random.nextInt(5);
        due("objects", x.objects(n), m.objects(n));
        for (int c = 0; c < 10; c++) {
            if (random.nextInt(8) != 0) {
                makeColumn(c, n);
            }
        }
        for (int turn = 0; turn < 12; turn++) {
            turn(i, n);
        }
    }

    private void turn(int i, int n) {
        String text = textOf(i % 8);
        if (text.length() > 400) {
            text = text.substring(0, 400);
        }
        for (int at = 0; at < text.length(); at += 20) {
            int[] five = Check.packed(text, at);
            due("feed", x.feed(five[0], five[1], five[2], five[3], five[4]),
                m.feed(five[0], five[1], five[2], five[3], five[4]));
        }
        due("end", x.end(text.length()), m.end(text.length()));
        int q = m.query();
        due("query of '" + text + "'", x.query(), q);
        due("fault of '" + text + "'", x.fault(), m.fault);
        if (q < 0) {
            return;
        }
        code(q, text);
        for (int again = 0; again < 3; again++) {
            result(q, text);
            shake(n);
        }
        result(q, text);
        if (m.queries.size() == 12 || random.nextInt(20) == 0) {
            due("clear", x.clear(), m.clear());
        }
    }

    private void code(int q, String text) {
        for (int part = -1; part <= 3; part++) {
            due("acts " + part + " of '" + text + "'", x.acts(q, part), m.acts(q, part));
            for (int k = -1; k <= m.acts(q, part); k++) {
                due("op " + part + " " + k + " of '" + text + "'", x.act(q, part, k, 0), m.act(q, part, k, 0));
                due("a " + part + " " + k + " of '" + text + "'", x.act(q, part, k, 1), m.act(q, part, k, 1));
            }
        }
    }

    private void result(int q, String text) {
        due("run of '" + text + "'", x.run(q), m.run(q));
        for (int what = -1; what <= 6; what++) {
            due("told " + what + " of '" + text + "'", x.told(what), m.told(what));
        }
        for (int k = -1; k <= 16; k++) {
            due("hit " + k + " of '" + text + "'", x.hit(k), m.hit(k));
            due("score " + k + " of '" + text + "'", x.score(k), m.score(k));
            due("value " + k + " of '" + text + "'", x.value(k), m.value(k));
        }
        cells(text);
    }

    private void cells(String text) {
        for (int c = -1; c <= 10; c++) {
            for (int what = -1; what <= 3; what++) {
                due("about " + c + " " + what, x.about(c, what), m.about(c, what));
            }
            for (int k = -1; k <= 16; k++) {
                due("cell " + c + " " + k + " after '" + text + "'", x.cell(c, k), m.cell(c, k));
            }
        }
        for (int what = -1; what <= 4; what++) {
            due("count " + what, x.count(what), m.count(what));
        }
    }

    /** Changes some of what a query that was read finds when it runs. */
    private void shake(int n) {
        int c = random.nextInt(12) - 1;
        int e = random.nextInt(12) - 1;
        switch (random.nextInt(12)) {
            case 0:
                due("drop", x.drop(c), m.drop(c));
                break;
            case 1:
                due("share", x.share(c, e), m.share(c, e));
                break;
            case 2:
                int count = random.nextInt(19) - 1;
                due("objects", x.objects(count), m.objects(count));
                break;
            case 3:
                makeColumn(Math.max(0, Math.min(c, 9)), n);
                break;
            default:
                for (int i = 0; i < 6; i++) {
                    fill(random.nextInt(12) - 1, random.nextInt(18) - 1);
                }
        }
    }

    private void makeColumn(int c, int n) {
        int lane = random.nextInt(20) == 0 ? random.nextInt(10) - 1 : random.nextInt(8);
        int size = random.nextInt(12) == 0 ? random.nextInt(19) - 1 : n;
        due("column", x.column(c, lane, size), m.column(c, lane, size));
        for (int i = 0; i < size; i++) {
            if (random.nextInt(5) != 0) {
                fill(c, i);
            }
        }
    }

    private void fill(int c, int i) {
        long v = bitsFor(c);
        due("put", x.put(c, i, v), m.put(c, i, v));
    }

    private long bitsFor(int c) {
        int lane = m.about(c, 0);
        int way = random.nextInt(8);
        if (way == 0) {
            return random.nextLong();
        }
        if (lane == 7) {
            return way < 4 ? d(random.nextInt(21) - 10) : DOUBLES[random.nextInt(DOUBLES.length)];
        }
        if (lane == 6) {
            float f = way < 4 ? random.nextInt(21) - 10 : FLOATS[random.nextInt(FLOATS.length)];
            return Float.floatToRawIntBits(f) | (way == 7 ? 1L << 40 : 0);
        }
        return way < 5 ? random.nextInt(9) - 2 : WHOLES[random.nextInt(WHOLES.length)];
    }

    private String textOf(int way) {
        switch (way) {
            case 0:
                return noise();
            case 1:
                return spoilt(queryText());
            case 2:
                return deepText();
            case 3:
                return longText();
            case 4:
                return "find " + kindless(1 + random.nextInt(4)) + "=" + kindless(2);
            default:
                return queryText();
        }
    }

    /** Some 6 to 18 openings, one within the other, now and then with much on the PILE. */
    private String deepText() {
        StringBuilder s = new StringBuilder();
        StringBuilder ends = new StringBuilder();
        int n = 6 + random.nextInt(13);
        boolean heavy = random.nextBoolean();
        for (int i = 0; i < n; i++) {
            String pending = heavy ? pick("1+", "1|1<<1+", "2*", "row-", "1.5*", "$4+") : pick("", "", "1+");
            switch (random.nextInt(6)) {
                case 0:
                    s.append(pending).append(pick("-", "~", "- "));
                    break;
                case 1:
                    s.append(pending).append(pick("(yes ? ", "(no and not no ? "));
                    ends.insert(0, " : 1)");
                    break;
                case 2:
                    s.append(pending).append(pick("min(1,", "abs(", "int(", "max(2,"));
                    ends.insert(0, ")");
                    break;
                case 3:
                    s.append(pending).append("$5[int(");
                    ends.insert(0, ")]");
                    break;
                default:
                    s.append(pending).append("(");
                    ends.insert(0, ")");
            }
        }
        return pick("find no order ", "set $4 := ", "fold sum ", "fold count by ") + s + "1" + ends + pick("", " ", ")");
    }

    /** About as many ACTS as a PART may have, or more. */
    private String longText() {
        StringBuilder s = new StringBuilder(pick("find no order ", "fold max ", "set $4 := ", "fold count where 1=", "find 0<"));
        int most = 280 + random.nextInt(120);
        String[] some = {pick("1", "row", "$4", "2.5", "(yes?1:2)"), pick("1", "row", "1.5")};
        while (s.length() < most) {
            s.append(some[random.nextInt(8) == 0 ? 1 : 0]).append(pick("+", "-", "*"));
        }
        s.append('1');
        return s.length() > 400 ? s.substring(0, 399) + "1" : s.toString();
    }

    /** A sum by the grammar, whatever the KINDS are. */
    private String kindless(int deep) {
        if (deep <= 0) {
            return pick("1", "row", "1.5", "yes", column(0, 7), column(1, 7), column(1, 5), "1<2", "$3[" + column(1, 5) + "]");
        }
        switch (random.nextInt(8)) {
            case 0:
                return pick("-", "~") + "(" + kindless(deep - 1) + ")";
            case 1:
                return "(not " + kindless(deep - 1) + ")";
            case 2:
                return pick("abs", "floor", "sign", "byte", "long", "float") + "(" + kindless(deep - 1) + ")";
            case 3:
                return pick("min", "max") + "(" + kindless(deep - 1) + "," + kindless(0) + ")";
            case 4:
                return "(" + kindless(deep - 1) + "?" + kindless(0) + ":" + kindless(deep - 1) + ")";
            default:
                return "(" + kindless(deep - 1) + " " + pick("+", "*", "%", "&", "^", "<<", ">>>", "and", "or", "=", "<", "|")
                    + " " + kindless(deep - 1) + ")";
        }
    }

    private String noise() {
        StringBuilder s = new StringBuilder(random.nextInt(3) == 0 ? "" : "find ");
        int n = random.nextInt(14);
        for (int i = 0; i < n; i++) {
            s.append(WORDS[random.nextInt(WORDS.length)]);
            if (random.nextInt(4) != 0) {
                s.append(random.nextInt(8) == 0 ? '\n' : ' ');
            }
        }
        return s.toString();
    }

    private String spoilt(String text) {
        StringBuilder s = new StringBuilder(text);
        int n = 1 + random.nextInt(2);
        for (int i = 0; i < n && s.length() > 0; i++) {
            int at = random.nextInt(s.length());
            switch (random.nextInt(4)) {
                case 0:
                    s.deleteCharAt(at);
                    break;
                case 1:
                    s.insert(at, WORDS[random.nextInt(WORDS.length)]);
                    break;
                case 2:
                    s.setLength(at);
                    break;
                default:
                    s.setCharAt(at, (char) random.nextInt(256));
            }
        }
        return s.toString();
    }

    private String queryText() {
        int deep = random.nextInt(5);
        switch (random.nextInt(3)) {
            case 0:
                return "find " + cut(truth(deep)) + (random.nextBoolean() ? " order " + number(deep) + pick("", " down") : "")
                    + pick("", " first " + random.nextInt(5));
            case 1:
                String how = pick("count", "sum ", "min ", "max ", "mean ");
                return "fold " + how + (how.equals("count") ? "" : number(deep))
                    + (random.nextBoolean() ? " where " + cut(truth(deep)) : "")
                    + (random.nextBoolean() ? " by " + whole(deep) : "");
            default:
                int c = random.nextInt(10);
                int lane = m.about(c, 0);
                return "set $" + c + " := " + (lane == 0 ? truth(deep) : number(deep))
                    + (random.nextBoolean() ? " where " + cut(truth(deep)) : "");
        }
    }

    /** What stands behind find and where has no ? of its own. */
    private String cut(String truth) {
        return truth.indexOf('?') < 0 ? truth : "(" + truth + ")";
    }

    private String pick(String... any) {
        return any[random.nextInt(any.length)];
    }

    private String column(int least, int most) {
        int from = random.nextInt(10);
        for (int i = 0; i < 10; i++) {
            int c = (from + i) % 10;
            if (m.about(c, 0) >= least && m.about(c, 0) <= most) {
                return "$" + c + (random.nextInt(6) == 0 ? "[" + pick("row", "0", "1", "row+1", "row-1", "row%2") + "]" : "");
            }
        }
        return least == 0 ? "yes" : "row";
    }

    private String truth(int deep) {
        if (deep <= 0) {
            return pick("yes", "no", column(0, 0), "row<2", column(1, 7) + pick("<", ">", "=") + pick("0", "1", "2.5"));
        }
        switch (random.nextInt(9)) {
            case 0:
                return "(" + truth(deep - 1) + ")";
            case 1:
                return "not " + truth(0);
            case 2:
                return truth(0) + " and " + truth(0);
            case 3:
                return truth(0) + " or " + truth(0) + pick("", " and " + truth(0));
            case 4:
                return "(" + truth(deep - 1) + ")" + pick("&", "|", "^", "=", "!=") + "(" + truth(deep - 2) + ")";
            case 5:
                return "(" + truth(deep - 1) + ")?" + truth(deep - 1) + " : " + truth(deep - 1);
            case 6:
                return "not (" + truth(deep - 1) + ")";
            default:
                return closed(deep - 1) + pick("=", "!=", "<", ">", "<=", ">=") + closed(deep - 1);
        }
    }

    private String closed(int deep) {
        String s = number(deep);
        return s.indexOf('?') < 0 ? s : "(" + s + ")";
    }

    private String number(int deep) {
        if (deep <= 0) {
            return pick("0", "1", "3", "row", "2147483647", "0.5", "2.25", "1.0", column(1, 7), column(1, 7), column(6, 7));
        }
        switch (random.nextInt(10)) {
            case 0:
                return "(" + number(deep - 1) + ")";
            case 1:
                return pick("-", "- ", "-") + number(0);
            case 2:
                return pick("abs", "floor", "ceil", "rint", "sign") + "(" + number(deep - 1) + ")";
            case 3:
                return pick("min", "max") + "(" + number(deep - 1) + "," + number(deep - 1) + ")";
            case 4:
                return pick("byte", "short", "char", "int", "long", "float", "double") + "(" + number(deep - 1) + ")";
            case 5:
                return "(" + truth(deep - 1) + " ? " + number(deep - 1) + " : " + number(deep - 1) + ")";
            case 6:
                return whole(deep - 1);
            default:
                return closed(deep - 1) + pick("+", "-", "*", "/", "%") + closed(deep - 2);
        }
    }

    private String whole(int deep) {
        if (deep <= 0) {
            return pick("0", "1", "3", "row", "31", "33", column(1, 5), column(1, 5), column(5, 5));
        }
        switch (random.nextInt(5)) {
            case 0:
                return "~" + whole(0);
            case 1:
                return pick("int", "long") + "(" + number(deep - 1) + ")";
            case 2:
                return "(" + whole(deep - 1) + pick("&", "|", "^") + whole(deep - 1) + ")";
            case 3:
                return "(" + whole(deep - 1) + ")" + pick("<<", ">>", ">>>") + "(" + whole(deep - 1) + ")";
            default:
                return "(" + whole(deep - 1) + pick("+", "-", "*") + whole(deep - 1) + ")";
        }
    }
}
