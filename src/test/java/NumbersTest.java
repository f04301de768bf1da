import java.util.Random;

/** What each ACT on numbers lays, for each KIND, at the edges and between: as Java has it. */
public final class NumbersTest {
    private static final Check CHECK = new Check("NumbersTest");
    private static final String[] NAMES = {"", "I", "J", "F", "D"};
    private static final long[] WHOLES = {0, 1, -1, 2, -2, 3, 7, -7, 31, 32, 33, 63, 64, 65, 127, 128, -128, -129, 255, 256, 32767,
        32768, -32768, -32769, 65535, 65536, 16777217, 2147483647L, -2147483648L, 2147483648L, 4294967295L, 9007199254740993L,
        Long.MAX_VALUE, Long.MIN_VALUE, Long.MIN_VALUE + 1};
    private static final double[] REALS = {0.0, -0.0, 0.25, 0.5, -0.5, 0.75, 1, -1, 1.5, -1.5, 2, 2.5, -2.5, 3, 3.5, 0.1, -0.3, 7, 1e10,
        -1e10, 2147483647.5, -2147483648.5, 4503599627370495.5, -4503599627370495.5, 4503599627370496.0, 4503599627370497.0,
        9.2e18, 9.3e18, -9.3e18, 3.4028234663852886e38, 3.5e38, 1e300, -1e300, 1e-300, 1.4e-45, 1e-40, 1.17549435e-38,
        2.2250738585072014e-308, 2.225073858507201e-308, 4.9e-324, -4.9e-324, Double.MAX_VALUE, -Double.MAX_VALUE,
        Double.POSITIVE_INFINITY, Double.NEGATIVE_INFINITY};

    private final Random random = new Random(3);
    private QueryClasses x;

    public static void main(String[] args) {
        NumbersTest t = new NumbersTest();
        for (int kind = 1; kind <= 4; kind++) {
            t.twos(kind);
            t.ones(kind);
        }
        CHECK.close();
    }

    /** COLUMNS 0 and 1 have one CELL each, of that KIND. */
    private void start(int kind) {
        x = new QueryClasses();
        x.objects(1);
        x.column(0, kind + 3, 1);
        x.column(1, kind + 3, 1);
    }

    private void twos(int kind) {
        String[] signs = {"+", "-", "*", "/", "%", "&", "|", "^"};
        for (int i = 0; i < (kind <= 2 ? 8 : 5); i++) {
            two(kind, "fold max $0" + signs[i] + "$1", 100 * (i + 1) + kind);
        }
        two(kind, "fold max min($0,$1)", 1750 + kind);
        two(kind, "fold max max($0,$1)", 1760 + kind);
        if (kind <= 2) {
            String[] shifts = {"<<", ">>", ">>>"};
            for (int i = 0; i < 3; i++) {
                two(kind, "fold max $0" + shifts[i] + "$1", 900 + 100 * i + kind);
            }
        }
        String[] tests = {"=", "!=", "<", ">", "<=", ">="};
        for (int r = 0; r < 6; r++) {
            two(kind, "fold max $0" + tests[r] + "$1 ? 1 : 0", 1500 + r);
        }
    }

    private void ones(int kind) {
        one(kind, "-$0", 1200 + kind);
        one(kind, "abs($0)", 1700 + kind);
        if (kind <= 2) {
            one(kind, "~$0", 1300 + kind);
        }
        String[] rounders = {"floor", "ceil", "rint"};
        for (int i = 0; i < 3; i++) {
            one(kind, rounders[i] + "($0)", kind == 4 ? 0 : 1604 + 10 * kind, 1714 + 10 * i);
        }
        one(kind, "sign($0)", kind <= 2 ? 1604 + 10 * kind : 0, kind == 3 ? 1743 : 1744);
        String[] casts = {"int", "long", "float", "double"};
        for (int to = 1; to <= 4; to++) {
            one(kind, casts[to - 1] + "($0)", to == kind ? 0 : 1600 + 10 * kind + to);
        }
        String[] narrow = {"byte", "short", "char"};
        for (int i = 0; i < 3; i++) {
            one(kind, narrow[i] + "($0)", kind == 1 ? 0 : 1601 + 10 * kind, 1651 + i);
        }
    }

    private int values(int kind) {
        return (kind <= 2 ? WHOLES.length : REALS.length) + 12;
    }

    /** One of the edges, or some other number. */
    private Object value(int kind, int i) {
        if (kind <= 2) {
            long v = i < WHOLES.length ? WHOLES[i] : random.nextLong() >> random.nextInt(64);
            return kind == 1 ? (Object) (int) v : (Object) v;
        }
        double v = i < REALS.length ? REALS[i] : (random.nextDouble() - 0.5) * Math.pow(2, random.nextInt(140) - 70);
        return kind == 3 ? (Object) (float) v : (Object) v;
    }

    private void two(int kind, String text, int op) {
        start(kind);
        int q = Check.query(x, text);
        for (int i = 0; i < values(kind); i++) {
            for (int j = 0; j < values(kind); j++) {
                Object a = value(kind, i);
                Object b = value(kind, j);
                x.put(0, 0, PlainModel.bits(a));
                x.put(1, 0, PlainModel.bits(b));
                String call = NAMES[kind] + " " + text + " of " + a + ", " + b;
                try {
                    dueValue(call, q, joined(op, kind, a, b));
                } catch (PlainModel.RunFault f) {
                    CHECK.due(call, x.run(q), -10);
                    CHECK.due("fault of " + call, x.told(0), f.kind);
                }
            }
        }
    }

    private static Object joined(int op, int kind, Object a, Object b) {
        if (op >= 1500 && op < 1510) {
            return PlainModel.unary(op, PlainModel.binary(1400 + kind, a, b));
        }
        boolean shift = op > 900 && op < 1200;
        return PlainModel.binary(op, a, shift ? (Object) ((Number) b).intValue() : b);
    }

    private void one(int kind, String text, int... ops) {
        start(kind);
        int q = Check.query(x, "fold max " + text);
        for (int i = 0; i < values(kind) + 200; i++) {
            Object made = value(kind, i);
            x.put(0, 0, PlainModel.bits(made));
            String call = NAMES[kind] + " " + text + " of " + made;
            for (int op : ops) {
                made = op == 0 ? made : PlainModel.unary(op, made);
            }
            dueValue(call, q, made);
        }
    }

    private void dueValue(String call, int q, Object want) {
        CHECK.due(call, x.run(q), 1);
        CHECK.due(call, x.value(0), PlainModel.bits(want));
    }
}
