import java.util.Random;

/**
 * Sums that are made at random, worked out straight from what their SIGNS and WORDS mean (by Java's own
 * arithmetic, without any ACT), against the CELL that a query sets by the same sum, or its FAULT.
 */
public final class MeaningTest {
    private static final Check CHECK = new Check("MeaningTest");
    private static final Random RANDOM = new Random(20261118);
    private static final int T = 0, I = 1, J = 2, F = 3, D = 4;
    private static final int INDEX = 2, ZERO = 4, ENDLESS = 5;
    /** What binds closer has the higher level. */
    private static final int CHOICE = 0, OR = 1, AND = 2, NOT = 3, TEST = 4, MIX = 5, SHIFT = 6, PLUS = 7, TIMES = 8,
        SIGN = 9, PART = 10;
    private static final int[] LANE = {0, 4, 5, 6, 7};
    private static final int CELLS = 3, ROUNDS = 30000, MOST_DEEP = 5;
    private static final Object[][] CELL = new Object[5][CELLS];
    private static final int[] SEEN = new int[7];

    /** A sum: its text, how close it binds, its KIND and what it is; or the FAULT that it ends with. */
    private record Sum(String text, int level, int kind, Object value, int fault) {
        String at(int least) {
            return level >= least && RANDOM.nextInt(12) != 0 ? text : "(" + text + ")";
        }

        Number number() {
            return value instanceof Boolean ? (Boolean) value ? 1 : 0 : (Number) value;
        }
    }

    public static void main(String[] args) {
        for (int i = 0; i < ROUNDS; i++) {
            QueryClasses x = filled();
            int kind = RANDOM.nextInt(5);
            Sum sum = grown(kind, 1 + RANDOM.nextInt(MOST_DEEP));
            String text = "set $" + (5 + kind) + " := " + sum.text;
            if (text.length() > 400) {
                continue;
            }
            int q = Check.query(x, text);
            if (q < 0) {
                CHECK.due(sum.text + " is a query, but for FAULTS 3 and 6: FAULT " + x.fault(), x.fault() % 3, 0);
                continue;
            }
            SEEN[sum.fault]++;
            CHECK.due(sum.text, x.run(q), sum.fault == 0 ? 1 : -10);
            CHECK.due(sum.text + ": its FAULT", x.told(0), sum.fault);
            CHECK.due(sum.text + ": the CELL", x.cell(5 + kind, 0), sum.fault == 0 ? bits(sum.value) : 0);
        }
        System.out.println("FAULTS 0 to 6: " + java.util.Arrays.toString(SEEN));
        CHECK.due("sums without a FAULT are many", SEEN[0] > ROUNDS / 2 ? 1 : 0, 1);
        CHECK.due("sums with one, too", Math.min(SEEN[INDEX], Math.min(SEEN[ZERO], SEEN[ENDLESS])) > 50 ? 1 : 0, 1);
        CHECK.close();
    }

    private static QueryClasses filled() {
        QueryClasses x = new QueryClasses();
        x.objects(1);
        for (int k = T; k <= D; k++) {
            x.column(k, LANE[k], CELLS);
            x.column(5 + k, LANE[k], 1);
            for (int i = 0; i < CELLS; i++) {
                CELL[k][i] = some(k);
                x.put(k, i, bits(CELL[k][i]));
            }
        }
        return x;
    }

    private static Object some(int kind) {
        int[] ints = {0, 1, -1, 2, 3, 31, 33, 64, -7, 100, 200, 40000, Integer.MAX_VALUE, Integer.MIN_VALUE};
        double[] doubles = {0.0, -0.0, 1, -1, 0.5, -0.5, 1.5, 2.5, -2.7, 0.1, 3e9, -1e19, 1e300, 5e-324, 1e38, 1.0 / 0.0, -1.0 / 0.0};
        int one = ints[RANDOM.nextInt(ints.length)];
        double real = doubles[RANDOM.nextInt(doubles.length)];
        switch (kind) {
            case T:
                return RANDOM.nextBoolean();
            case I:
                return one;
            case J:
                return RANDOM.nextInt(3) == 0 ? RANDOM.nextLong() : (long) one * ints[RANDOM.nextInt(ints.length)];
            case F:
                return (float) real;
            default:
                return real;
        }
    }

    private static long bits(Object v) {
        if (v instanceof Boolean) {
            return (Boolean) v ? 1 : 0;
        }
        if (v instanceof Float) {
            return Float.floatToRawIntBits((Float) v);
        }
        return v instanceof Double ? Double.doubleToRawLongBits((Double) v) : ((Number) v).longValue();
    }

    private static Sum grown(int kind, int depth) {
        if (depth == 0 || RANDOM.nextInt(8) == 0) {
            return leaf(kind, depth);
        }
        if (RANDOM.nextInt(6) == 0) {
            return choice(kind, depth);
        }
        return kind == T ? truth(depth) : RANDOM.nextInt(2) == 0 ? joined(kind, depth) : applied(kind, depth);
    }

    private static Sum leaf(int kind, int depth) {
        int way = RANDOM.nextInt(4);
        if (way == 0 && kind == T) {
            boolean yes = RANDOM.nextBoolean();
            return new Sum(yes ? "yes" : "no", PART, T, yes, 0);
        }
        if (way == 0 && kind == I) {
            int n = RANDOM.nextInt(5);
            return RANDOM.nextInt(4) == 0 ? new Sum("row", PART, I, 0, 0) : new Sum("" + n, PART, I, n, 0);
        }
        if (way == 0 && kind == D) {
            int n = RANDOM.nextInt(1000);
            return new Sum(n / 10 + "." + n % 10, PART, D, n / 10.0, 0);
        }
        if (way == 1) {
            return new Sum("$" + kind, PART, kind, CELL[kind][0], 0);
        }
        Sum index = way == 2 && depth > 0 ? grown(I, depth - 1) : givenIndex();
        int fault = index.fault;
        Object value = CELL[kind][0];
        if (fault == 0) {
            int i = (Integer) index.value;
            fault = i < 0 || i >= CELLS ? INDEX : 0;
            value = fault == 0 ? CELL[kind][i] : value;
        }
        return new Sum("$" + kind + "[" + index.text + "]", PART, kind, value, fault);
    }

    private static Sum givenIndex() {
        int n = RANDOM.nextInt(CELLS);
        return new Sum("" + n, PART, I, n, 0);
    }

    private static Sum choice(int kind, int depth) {
        Sum c = grown(T, depth - 1);
        int low = kind == T ? T : 1 + RANDOM.nextInt(kind);
        boolean swap = RANDOM.nextBoolean();
        Sum a = grown(swap ? low : kind, depth - 1);
        Sum b = grown(swap ? kind : low, depth - 1);
        Sum way = c.fault != 0 ? c : (Boolean) c.value ? a : b;
        Object value = way.fault == 0 && way != c ? become(way, kind) : null;
        return new Sum(c.at(OR) + " ? " + a.at(CHOICE) + " : " + b.at(CHOICE), CHOICE, kind, value, way.fault);
    }

    private static Object become(Sum s, int kind) {
        Number n = s.number();
        switch (kind) {
            case T:
                return s.value;
            case I:
                return n instanceof Float ? (Object) (int) n.floatValue() : n instanceof Double ? (Object) (int) n.doubleValue() : (Object) (int) n.longValue();
            case J:
                return n instanceof Float ? (Object) (long) n.floatValue() : n instanceof Double ? (Object) (long) n.doubleValue() : (Object) n.longValue();
            case F:
                return n.floatValue();
            default:
                return n.doubleValue();
        }
    }

    private static Sum truth(int depth) {
        switch (RANDOM.nextInt(6)) {
            case 0: {
                Sum a = grown(T, depth - 1);
                return new Sum("not " + a.at(NOT), NOT, T, a.fault != 0 ? null : !(Boolean) a.value, a.fault);
            }
            case 1:
                return logic(grown(T, depth - 1), grown(T, depth - 1), RANDOM.nextBoolean());
            case 2:
                return joined(T, depth);
            case 3:
                return test(T, T, depth);
            default:
                return test(1 + RANDOM.nextInt(4), 1 + RANDOM.nextInt(4), depth);
        }
    }

    private static Sum logic(Sum a, Sum b, boolean or) {
        int level = or ? OR : AND;
        String text = a.at(level) + (or ? " or " : " and ") + b.at(level + 1);
        if (a.fault != 0 || (Boolean) a.value == or) {
            return new Sum(text, level, T, a.value, a.fault);
        }
        return new Sum(text, level, T, b.value, b.fault);
    }

    private static Sum test(int left, int right, int depth) {
        Sum a = grown(left, depth - 1);
        Sum b = grown(right, depth - 1);
        String[] signs = {"=", "!=", "<", ">", "<=", ">="};
        int way = RANDOM.nextInt(left == T ? 2 : 6);
        int fault = a.fault != 0 ? a.fault : b.fault;
        Object value = null;
        if (fault == 0) {
            int kind = Math.max(Math.max(left, right), I);
            Object v = become(a, kind);
            Object w = become(b, kind);
            boolean less = kind >= F ? ((Number) v).doubleValue() < ((Number) w).doubleValue() : ((Number) v).longValue() < ((Number) w).longValue();
            boolean more = kind >= F ? ((Number) v).doubleValue() > ((Number) w).doubleValue() : ((Number) v).longValue() > ((Number) w).longValue();
            boolean[] holds = {!less && !more, less || more, less, more, !more, !less};
            value = holds[way];
        }
        return new Sum(a.at(MIX) + signs[way] + b.at(MIX), TEST, T, value, fault);
    }

    private static Sum joined(int kind, int depth) {
        int group = kind == T ? 1 : kind <= J ? RANDOM.nextInt(3) : 0;
        if (group == 2) {
            return shifted(kind, depth);
        }
        int low = kind == T ? T : 1 + RANDOM.nextInt(kind);
        boolean swap = RANDOM.nextBoolean();
        Sum a = grown(swap ? low : kind, depth - 1);
        Sum b = grown(swap ? kind : low, depth - 1);
        String sign = group == 1 ? "&|^".substring(RANDOM.nextInt(3)).substring(0, 1) : "+-*/%".substring(RANDOM.nextInt(5)).substring(0, 1);
        int level = group == 1 ? MIX : "+-".contains(sign) ? PLUS : TIMES;
        String text = a.at(level) + " " + sign + " " + b.at(level + 1);
        int fault = a.fault != 0 ? a.fault : b.fault;
        Object v = fault != 0 ? null : worked(sign.charAt(0), become(a, kind), become(b, kind), kind);
        return fault != 0 ? new Sum(text, level, kind, null, fault) : new Sum(text, level, kind, v, lost(v, kind));
    }

    /** No value: it would have been divided by 0. */
    private static int lost(Object v, int kind) {
        if (v == null) {
            return ZERO;
        }
        return kind >= F && Double.isNaN(((Number) v).doubleValue()) ? ENDLESS : 0;
    }

    private static Object worked(char sign, Object a, Object b, int kind) {
        switch (kind) {
            case T: {
                boolean x = (Boolean) a;
                boolean y = (Boolean) b;
                return sign == '&' ? x & y : sign == '|' ? x | y : x ^ y;
            }
            case I: {
                int x = (Integer) a;
                int y = (Integer) b;
                return "/%".indexOf(sign) >= 0 && y == 0 ? null : (Object) ofInts(sign, x, y);
            }
            case J: {
                long x = (Long) a;
                long y = (Long) b;
                return "/%".indexOf(sign) >= 0 && y == 0 ? null : (Object) ofLongs(sign, x, y);
            }
            case F: {
                float x = (Float) a;
                float y = (Float) b;
                return sign == '+' ? x + y : sign == '-' ? x - y : sign == '*' ? x * y : sign == '/' ? x / y : x % y;
            }
            default: {
                double x = (Double) a;
                double y = (Double) b;
                return sign == '+' ? x + y : sign == '-' ? x - y : sign == '*' ? x * y : sign == '/' ? x / y : x % y;
            }
        }
    }

    private static int ofInts(char sign, int x, int y) {
        switch (sign) {
            case '+':
                return x + y;
            case '-':
                return x - y;
            case '*':
                return x * y;
            case '/':
                return x / y;
            case '%':
                return x % y;
            default:
                return sign == '&' ? x & y : sign == '|' ? x | y : x ^ y;
        }
    }

    private static long ofLongs(char sign, long x, long y) {
        switch (sign) {
            case '+':
                return x + y;
            case '-':
                return x - y;
            case '*':
                return x * y;
            case '/':
                return x / y;
            case '%':
                return x % y;
            default:
                return sign == '&' ? x & y : sign == '|' ? x | y : x ^ y;
        }
    }

    private static Sum shifted(int kind, int depth) {
        Sum a = grown(kind, depth - 1);
        Sum b = grown(RANDOM.nextBoolean() ? I : J, depth - 1);
        String[] signs = {"<<", ">>", ">>>"};
        int way = RANDOM.nextInt(3);
        int fault = a.fault != 0 ? a.fault : b.fault;
        Object value = null;
        if (fault == 0) {
            int by = b.number().intValue();
            int x = a.number().intValue();
            long y = a.number().longValue();
            value = kind == I ? (Object) (way == 0 ? x << by : way == 1 ? x >> by : x >>> by)
                : (Object) (way == 0 ? y << by : way == 1 ? y >> by : y >>> by);
        }
        return new Sum(a.at(SHIFT) + signs[way] + b.at(PLUS), SHIFT, kind, value, fault);
    }

    private static Sum applied(int kind, int depth) {
        switch (RANDOM.nextInt(5)) {
            case 0:
                return turned(kind, depth);
            case 1:
                return cast(kind, depth);
            case 2: {
                Sum a = grown(kind, depth - 1);
                return new Sum("abs(" + a.text + ")", PART, kind, a.fault != 0 ? null : magnitude(a.value), a.fault);
            }
            case 3:
                return kind >= F ? rounded(kind, depth) : cast(kind, depth);
            default: {
                int low = 1 + RANDOM.nextInt(kind);
                Sum a = grown(low, depth - 1);
                Sum b = grown(kind, depth - 1);
                boolean least = RANDOM.nextBoolean();
                int fault = a.fault != 0 ? a.fault : b.fault;
                Object v = fault != 0 ? null : ofBoth(least, become(a, kind), become(b, kind));
                return new Sum((least ? "min(" : "max(") + a.text + ", " + b.text + ")", PART, kind, v, fault);
            }
        }
    }

    private static Object magnitude(Object v) {
        if (v instanceof Integer) {
            return Math.abs((Integer) v);
        }
        if (v instanceof Long) {
            return Math.abs((Long) v);
        }
        return v instanceof Float ? (Object) Math.abs((Float) v) : (Object) Math.abs((Double) v);
    }

    private static Object ofBoth(boolean least, Object a, Object b) {
        if (a instanceof Integer) {
            return least ? Math.min((Integer) a, (Integer) b) : Math.max((Integer) a, (Integer) b);
        }
        if (a instanceof Long) {
            return least ? Math.min((Long) a, (Long) b) : Math.max((Long) a, (Long) b);
        }
        if (a instanceof Float) {
            return least ? Math.min((Float) a, (Float) b) : Math.max((Float) a, (Float) b);
        }
        return least ? Math.min((Double) a, (Double) b) : Math.max((Double) a, (Double) b);
    }

    private static Sum turned(int kind, int depth) {
        Sum a = grown(kind, depth - 1);
        boolean minus = kind >= F || RANDOM.nextBoolean();
        Object v = null;
        if (a.fault == 0) {
            switch (kind) {
                case I:
                    v = minus ? -(Integer) a.value : ~(Integer) a.value;
                    break;
                case J:
                    v = minus ? -(Long) a.value : ~(Long) a.value;
                    break;
                case F:
                    v = -(Float) a.value;
                    break;
                default:
                    v = -(Double) a.value;
            }
        }
        return new Sum((minus ? "-" : "~") + a.at(SIGN), SIGN, kind, v, a.fault);
    }

    private static Sum cast(int kind, int depth) {
        Sum a = grown(1 + RANDOM.nextInt(4), depth - 1);
        String name = new String[] {"", "int", "long", "float", "double"}[kind];
        Object v = a.fault != 0 ? null : become(a, kind);
        int narrow = kind == I ? RANDOM.nextInt(4) : 0;
        if (narrow > 0) {
            name = new String[] {"", "byte", "short", "char"}[narrow];
            int whole = v == null ? 0 : (Integer) v;
            v = narrow == 1 ? (int) (byte) whole : narrow == 2 ? (int) (short) whole : (int) (char) whole;
        }
        return new Sum(name + "(" + a.text + ")", PART, kind, v, a.fault);
    }

    private static Sum rounded(int kind, int depth) {
        int way = kind == F ? 3 : RANDOM.nextInt(4);
        int of = kind == F ? F : 1 + RANDOM.nextInt(4);
        // The sign of a float is a float; all else of these functions answers doubles.
        of = way == 3 && of == F ? kind : of;
        Sum a = grown(of, depth - 1);
        Object v = null;
        if (a.fault == 0) {
            double d = a.number().doubleValue();
            double r = way == 0 ? Math.floor(d) : way == 1 ? Math.ceil(d) : way == 2 ? Math.rint(d) : Math.signum(d);
            v = kind == F ? (Object) (float) r : (Object) r;
        }
        return new Sum(new String[] {"floor", "ceil", "rint", "sign"}[way] + "(" + a.text + ")", PART, kind, v, a.fault);
    }
}
