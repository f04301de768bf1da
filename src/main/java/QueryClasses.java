import java.util.Arrays;

/**
 * Queries over columns of eight kinds, told as texts. The document ../shared/DOC.md
 * says what each call answers; words in capitals there are the names used here.
 */
public final class QueryClasses {
    public static final int NONE = -1, BAD = -1, FULL = -2, NO = -3;
    public static final long LOST = Long.MIN_VALUE;

    /** What BAD is where -1 would be an answer. */
    private static final int WRONG = -2;
    /** Failing texts and runs answer this less a place or an OBJECT. */
    private static final int FAILED = -10;

    private static final int MOST_OBJECTS = 16, MOST_QUERIES = 12, PARTS = 3;

    /** KINDS; that of truths is 0, so that numbers are those above it. */
    private static final int T = 0, I = 1, J = 2, F = 3, D = 4;

    /** Levels of the signs and words that join two sums: the higher one binds closer. */
    private static final int NO_LEVEL = -1, OR_LEVEL = 0, AND_LEVEL = 1, NOT_LEVEL = 2,
            TEST_LEVEL = 3, MIX_LEVEL = 4, SHIFT_LEVEL = 5, PLUS_LEVEL = 6, TIMES_LEVEL = 7;

    private static final int NULL = 1, INDEX = 2, CAST = 3, ZERO = 4, ENDLESS = 5, ROOM = 6;

    private static final int NO_TOKEN = 1, OUT_OF_PLACE = 2, TOO_DEEP = 3, UNFIT = 4,
            MISSING = 5, TOO_LONG = 6;

    /** ACTS that are named in more than one place. */
    private static final int LAY = 1, LAY_REAL = 2, LAY_OBJECT = 3, FETCH = 10, STORE = 20,
            COMPARE = 1400, RELATE = 1500, CONVERT = 1600, FUNCTION = 1700,
            IF_NO = 1800, IF_YES = 1801, ALWAYS = 1802, DENY = 1810;

    private final Columns columns;
    private final Tape tape;
    private final Judge judge;
    private final Latest latest;
    private final Machine machine;
    private final Query[] queries;
    private int queryCount;
    private int objectCount;
    private int textFault;

    public QueryClasses() {
        columns = new Columns();
        tape = new Tape();
        judge = new Judge(new Scanner(tape), columns);
        latest = new Latest();
        machine = new Machine(columns, latest);
        queries = new Query[MOST_QUERIES];
        queryCount = 0;
        objectCount = 0;
        textFault = 0;
    }

    public int objects(int n) {
        if (n < 0 || n > MOST_OBJECTS) {
            return BAD;
        }
        int before = objectCount;
        objectCount = n;
        return before;
    }

    public int column(int c, int lane, int n) {
        if (!Columns.isColumn(c) || !Columns.isLane(lane) || n < 0 || n > Columns.CELLS) {
            return BAD;
        }
        columns.make(c, lane, n);
        return 1;
    }

    public int share(int c, int d) {
        if (!Columns.isColumn(c) || !Columns.isColumn(d)) {
            return BAD;
        }
        columns.unite(c, d);
        return 1;
    }

    public int drop(int c) {
        if (!Columns.isColumn(c)) {
            return BAD;
        }
        return columns.lose(c) ? 1 : 0;
    }

    public int put(int c, int i, long v) {
        if (!Columns.isColumn(c)) {
            return BAD;
        }
        // Ahead of the CELL's number: only a row tells which numbers its CELLS have.
        if (columns.laneOf(c) == NONE) {
            return NO;
        }
        return columns.setBits(c, i, v) ? 1 : BAD;
    }

    public long cell(int c, int i) {
        if (!Columns.isColumn(c) || i < 0 || i >= columns.sizeOf(c)) {
            return LOST;
        }
        return columns.bitsOf(c, i);
    }

    public int about(int c, int what) {
        if (!Columns.isColumn(c)) {
            return WRONG;
        }
        switch (what) {
            case 0:
                return columns.laneOf(c);
            case 1:
                return columns.sizeOf(c);
            case 2:
                return columns.leastLike(c);
            default:
                return WRONG;
        }
    }

    public int feed(int a, int b, int c, int d, int e) {
        if (!tape.hasRoom()) {
            return FULL;
        }
        tape.append(a);
        tape.append(b);
        tape.append(c);
        tape.append(d);
        tape.append(e);
        return tape.length;
    }

    public int end(int n) {
        return tape.cut(n) ? 1 : BAD;
    }

    public int query() {
        if (queryCount >= MOST_QUERIES) {
            return FULL;
        }
        Query made = judge.read();
        textFault = judge.faultKind();
        tape.cut(0);
        if (made == null) {
            return FAILED - judge.faultPlace();
        }
        queries[queryCount] = made;
        queryCount++;
        return queryCount - 1;
    }

    public int fault() {
        return textFault;
    }

    public int acts(int q, int part) {
        Query asked = queryAt(q);
        if (asked == null || part < 0 || part >= PARTS) {
            return BAD;
        }
        return asked.size(part);
    }

    public int act(int q, int part, int i, int what) {
        Query asked = queryAt(q);
        if (asked == null || part < 0 || part >= PARTS || i < 0 || i >= asked.size(part)) {
            return WRONG;
        }
        if (what == 0) {
            return asked.op(part, i);
        }
        return what == 1 ? asked.number(part, i) : WRONG;
    }

    public int run(int q) {
        Query asked = queryAt(q);
        if (asked == null) {
            return BAD;
        }
        return machine.go(asked, q, objectCount);
    }

    public int told(int what) {
        switch (what) {
            case 0:
                return latest.fault;
            case 1:
                return latest.part;
            case 2:
                return latest.place;
            case 3:
                return latest.done;
            case 4:
                return latest.hits;
            case 5:
                return latest.number;
            default:
                return WRONG;
        }
    }

    public int hit(int k) {
        return latest.isHit(k) ? latest.who[k] : BAD;
    }

    public long score(int k) {
        if (!latest.isHit(k)) {
            return LOST;
        }
        return latest.ofGroups ? latest.keys[k] : Reals.bitsOfDouble(latest.scores[k]);
    }

    public long value(int k) {
        if (!latest.isHit(k) || !latest.ofGroups) {
            return LOST;
        }
        return latest.valueBits(k);
    }

    public int count(int what) {
        switch (what) {
            case 0:
                return objectCount;
            case 1:
                return columns.present();
            case 2:
                return queryCount;
            case 3:
                return tape.length;
            default:
                return BAD;
        }
    }

    public int clear() {
        int before = queryCount;
        for (int q = 0; q < MOST_QUERIES; q++) {
            queries[q] = null;
        }
        queryCount = 0;
        latest.forget();
        return before;
    }

    private Query queryAt(int q) {
        return q >= 0 && q < queryCount ? queries[q] : null;
    }

    /** The COLUMNS: each names a row of a pool, so that several may name the same one. */
    private static final class Columns {
        static final int MOST = 10, CELLS = 16, LANES = 8;
        static final int TRUTHS = 0, BYTES = 1, SHORTS = 2, CHARS = 3, INTS = 4, LONGS = 5,
                FLOATS = 6;

        /** One row for each COLUMN suffices: at most nine are in use when one is wanted. */
        private final int[] rowOf;
        private final int[] lanes;
        private final int[] sizes;
        private final long[] wholes;
        private final double[] reals;
        private final long[] keptWholes;
        private final double[] keptReals;
        private int keptRow;

        Columns() {
            rowOf = new int[MOST];
            lanes = new int[MOST];
            sizes = new int[MOST];
            wholes = new long[MOST * CELLS];
            reals = new double[MOST * CELLS];
            keptWholes = new long[CELLS];
            keptReals = new double[CELLS];
            keptRow = NONE;
            for (int c = 0; c < MOST; c++) {
                rowOf[c] = NONE;
            }
        }

        static boolean isColumn(int c) {
            return c >= 0 && c < MOST;
        }

        static boolean isLane(int lane) {
            return lane >= 0 && lane < LANES;
        }

        static int kindOf(int lane) {
            if (lane == TRUTHS) {
                return T;
            }
            return lane <= INTS ? I : lane - INTS + I;
        }

        int laneOf(int c) {
            return isColumn(c) && rowOf[c] != NONE ? lanes[rowOf[c]] : NONE;
        }

        int sizeOf(int c) {
            return isColumn(c) && rowOf[c] != NONE ? sizes[rowOf[c]] : NONE;
        }

        int present() {
            int n = 0;
            for (int c = 0; c < MOST; c++) {
                if (rowOf[c] != NONE) {
                    n++;
                }
            }
            return n;
        }

        int leastLike(int c) {
            for (int d = 0; d < c; d++) {
                if (rowOf[d] == rowOf[c]) {
                    return d;
                }
            }
            return c;
        }

        void make(int c, int lane, int size) {
            rowOf[c] = NONE;
            int row = freeRow();
            lanes[row] = lane;
            sizes[row] = size;
            for (int i = 0; i < CELLS; i++) {
                wholes[row * CELLS + i] = 0;
                reals[row * CELLS + i] = 0.0;
            }
            rowOf[c] = row;
        }

        void unite(int c, int d) {
            rowOf[c] = rowOf[d];
        }

        boolean lose(int c) {
            boolean was = rowOf[c] != NONE;
            rowOf[c] = NONE;
            return was;
        }

        private int freeRow() {
            for (int row = 0; row < MOST; row++) {
                if (!isUsed(row)) {
                    return row;
                }
            }
            return 0;
        }

        private boolean isUsed(int row) {
            for (int c = 0; c < MOST; c++) {
                if (rowOf[c] == row) {
                    return true;
                }
            }
            return false;
        }

        /** Whether there is such a CELL and the BITS are some number's. */
        boolean setBits(int c, int i, long bits) {
            if (cellFault(c, laneOf(c), i) != 0) {
                return false;
            }
            int at = rowOf[c] * CELLS + i;
            int lane = laneOf(c);
            if (lane < FLOATS) {
                wholes[at] = narrowed(lane, bits);
                return true;
            }
            if (lane == FLOATS ? Reals.isNoFloat((int) bits) : Reals.isNoDouble(bits)) {
                return false;
            }
            reals[at] = lane == FLOATS ? Reals.floatOf((int) bits) : Reals.doubleOf(bits);
            return true;
        }

        private static long narrowed(int lane, long v) {
            switch (lane) {
                case TRUTHS:
                    return v != 0 ? 1 : 0;
                case BYTES:
                    return (byte) v;
                case SHORTS:
                    return (short) v;
                case CHARS:
                    return (char) v;
                case INTS:
                    return (int) v;
                default:
                    return v;
            }
        }

        long bitsOf(int c, int i) {
            int at = rowOf[c] * CELLS + i;
            int lane = laneOf(c);
            if (lane < FLOATS) {
                return wholes[at];
            }
            return lane == FLOATS ? Reals.bitsOfFloat(reals[at]) : Reals.bitsOfDouble(reals[at]);
        }

        /** The FAULT of taking that CELL as one of a LANE; 0 if it can be taken. */
        int cellFault(int c, int lane, long i) {
            if (!isColumn(c) || rowOf[c] == NONE) {
                return NULL;
            }
            if (lanes[rowOf[c]] != lane) {
                return CAST;
            }
            return i < 0 || i >= sizes[rowOf[c]] ? INDEX : 0;
        }

        long wholeAt(int c, int i) {
            return wholes[rowOf[c] * CELLS + i];
        }

        double realAt(int c, int i) {
            return reals[rowOf[c] * CELLS + i];
        }

        void setWhole(int c, int i, long v) {
            wholes[rowOf[c] * CELLS + i] = v;
        }

        void setReal(int c, int i, double v) {
            reals[rowOf[c] * CELLS + i] = v;
        }

        /** A RUN sets CELLS of one COLUMN alone, so one row is all that must be kept. */
        void keep(int c) {
            keptRow = isColumn(c) ? rowOf[c] : NONE;
            if (keptRow != NONE) {
                System.arraycopy(wholes, keptRow * CELLS, keptWholes, 0, CELLS);
                System.arraycopy(reals, keptRow * CELLS, keptReals, 0, CELLS);
            }
        }

        void giveBack() {
            if (keptRow != NONE) {
                System.arraycopy(keptWholes, 0, wholes, keptRow * CELLS, CELLS);
                System.arraycopy(keptReals, 0, reals, keptRow * CELLS, CELLS);
            }
        }
    }

    /**
     * What the library is not allowed to do with floats and doubles. A float is held as the
     * double that is as much: that loses nothing, and goes back to the same float.
     */
    private static final class Reals {
        private static final int DOUBLE_FRACTION = 52, DOUBLE_BIAS = 1023;
        private static final int FLOAT_FRACTION = 23, FLOAT_BIAS = 127;

        static boolean isNoDouble(long bits) {
            return isNoNumber(bits, DOUBLE_FRACTION, DOUBLE_BIAS);
        }

        static boolean isNoFloat(int bits) {
            return isNoNumber(bits, FLOAT_FRACTION, FLOAT_BIAS);
        }

        static double doubleOf(long bits) {
            return decoded(bits, DOUBLE_FRACTION, DOUBLE_BIAS);
        }

        static double floatOf(int bits) {
            return decoded(bits, FLOAT_FRACTION, FLOAT_BIAS);
        }

        static long bitsOfDouble(double x) {
            long bits = encoded(magnitude(x), DOUBLE_FRACTION, DOUBLE_BIAS);
            return isMinus(x) ? bits | 1L << 63 : bits;
        }

        static long bitsOfFloat(double x) {
            int bits = (int) encoded(magnitude(x), FLOAT_FRACTION, FLOAT_BIAS);
            return isMinus(x) ? bits | 1 << 31 : bits;
        }

        private static boolean isNoNumber(long bits, int fraction, int bias) {
            int top = 2 * bias + 1;
            return ((bits >>> fraction) & top) == top && (bits & ((1L << fraction) - 1)) != 0;
        }

        private static double decoded(long bits, int fraction, int bias) {
            int top = 2 * bias + 1;
            int power = (int) ((bits >>> fraction) & top);
            long digits = bits & ((1L << fraction) - 1);
            double x;
            if (power == top) {
                x = 1.0 / 0.0;
            } else if (power == 0) {
                x = scaled(digits, 1 - bias - fraction);
            } else {
                x = scaled(digits + (1L << fraction), power - bias - fraction);
            }
            return bits < 0 ? -x : x;
        }

        private static long encoded(double x, int fraction, int bias) {
            if (x == 0) {
                return 0;
            }
            if (isEndless(x)) {
                return (2L * bias + 1) << fraction;
            }
            int power = Math.max(powerOf(x), 1 - bias);
            long digits = (long) scaled(x, fraction - power);
            // The highest digit of a normal number adds the 1 that is missing ahead of it.
            return ((long) (power + bias - 1) << fraction) + digits;
        }

        /**
         * The greatest power of two that is not more than x, which is above 0 and has an end;
         * -1023 where that is less.
         */
        private static int powerOf(double x) {
            int power = 0;
            double rest = x;
            // All steps together are 1023: no less power than that has BITS of its own.
            for (int step = 512; step >= 1; step /= 2) {
                double factor = twoTo(step);
                if (rest / factor >= 1) {
                    rest /= factor;
                    power += step;
                } else if (rest * factor < 2) {
                    rest *= factor;
                    power -= step;
                }
            }
            return power;
        }

        /** x times 2 to the power; step by step, as 2 to 1074 itself is no double. */
        private static double scaled(double x, int power) {
            double product = x;
            int left = power < 0 ? -power : power;
            for (int twice = 0; twice < 2; twice++) {
                for (int step = 512; step >= 1; step /= 2) {
                    if (left >= step) {
                        product = power < 0 ? product / twoTo(step) : product * twoTo(step);
                        left -= step;
                    }
                }
            }
            return product;
        }

        /** For 1, 2, 4 .. 512. */
        private static double twoTo(int step) {
            double power = 2.0;
            for (int s = 1; s < step; s *= 2) {
                power *= power;
            }
            return power;
        }

        static boolean isEndless(double x) {
            return x > 1.7976931348623157E308 || x < -1.7976931348623157E308;
        }

        /** Also of -0.0, which only a division tells from 0.0. */
        static boolean isMinus(double x) {
            return x < 0 || x == 0 && 1.0 / x < 0;
        }

        static double magnitude(double x) {
            return isMinus(x) ? -x : x;
        }

        /** Whether + - * / % (how 1 to 5) of these would be no number. */
        static boolean isLost(int how, double x, double y) {
            switch (how) {
                case 1:
                    return isEndless(x) && y == -x;
                case 2:
                    return isEndless(x) && y == x;
                case 3:
                    return isEndless(x) && y == 0 || x == 0 && isEndless(y);
                case 4:
                    return x == 0 && y == 0 || isEndless(x) && isEndless(y);
                default:
                    return isEndless(x) || y == 0;
            }
        }

        static double joined(int how, double x, double y) {
            switch (how) {
                case 1:
                    return x + y;
                case 2:
                    return x - y;
                case 3:
                    return x * y;
                case 4:
                    return x / y;
                default:
                    return remainder(x, y);
            }
        }

        static double joinedFloats(int how, float x, float y) {
            switch (how) {
                case 1:
                    return x + y;
                case 2:
                    return x - y;
                case 3:
                    return x * y;
                case 4:
                    return x / y;
                default:
                    // What remains of two floats is a float itself: nothing is rounded.
                    return remainder(x, y);
            }
        }

        /**
         * Of an x that has an end and a y that is not 0. Each subtraction is of numbers at
         * most a factor two apart, so it is exact.
         */
        private static double remainder(double x, double y) {
            double rest = x < 0 ? -x : x;
            double step = y < 0 ? -y : y;
            if (rest < step) {
                return x;
            }
            int doublings = 0;
            for (int i = 0; i < 2200 && step + step <= rest; i++) {
                step += step;
                doublings++;
            }
            for (int i = 0; i <= doublings; i++) {
                if (rest >= step) {
                    rest -= step;
                }
                step *= 0.5;
            }
            return x < 0 ? -rest : rest;
        }

        static int compared(double x, double y) {
            if (x < y) {
                return -1;
            }
            return x > y ? 1 : 0;
        }

        static double lesser(double x, double y) {
            if (x == y) {
                return isMinus(x) ? x : y;
            }
            return x < y ? x : y;
        }

        static double greater(double x, double y) {
            if (x == y) {
                return isMinus(x) ? y : x;
            }
            return x > y ? x : y;
        }

        static double signOf(double x) {
            if (x == 0) {
                return x;
            }
            return x < 0 ? -1.0 : 1.0;
        }

        /** From 2 to 52 on all doubles are whole; adding it to a lesser one rounds that. */
        static double nearest(double x) {
            if (x == 0) {
                return x;
            }
            double size = x < 0 ? -x : x;
            if (size < 4503599627370496.0) {
                size = size + 4503599627370496.0 - 4503599627370496.0;
            }
            return x < 0 ? -size : size;
        }

        static double floor(double x) {
            double near = nearest(x);
            return near > x ? near - 1.0 : near;
        }
    }

    /** THE TAPE. */
    private static final class Tape {
        static final int MOST = 400, FED = 20;

        private final int[] bytes;
        private int length;

        Tape() {
            bytes = new int[MOST];
            length = 0;
        }

        boolean hasRoom() {
            return length + FED <= MOST;
        }

        void append(int four) {
            for (int shift = 24; shift >= 0; shift -= 8) {
                if (length < MOST) {
                    bytes[length] = (four >>> shift) & 255;
                    length++;
                }
            }
        }

        boolean cut(int n) {
            if (n < 0 || n > length) {
                return false;
            }
            length = n;
            return true;
        }

        /** NONE behind the end. */
        int at(int place) {
            return place >= 0 && place < length ? bytes[place] : NONE;
        }

        boolean hasAt(int place, String text) {
            if (place < 0 || place > length - text.length()) {
                return false;
            }
            for (int i = 0; i < text.length(); i++) {
                if (bytes[place + i] != text.charAt(i)) {
                    return false;
                }
            }
            return true;
        }
    }

    /** What a TOKEN can be; of WORDS and SIGNS with what they mean in a sum. */
    private enum Mark {
        END, NUMBER, REAL, COLUMN, STRANGE,
        FIND("find"), ORDER("order"), DOWN("down"), FIRST("first"), FOLD("fold"),
        COUNT("count"), SUM("sum"), MEAN("mean"), WHERE("where"), BY("by"), SET("set"),
        ROW("row"), YES("yes"), NO("no"), NOT("not"),
        OR("or", OR_LEVEL, IF_YES), AND("and", AND_LEVEL, IF_NO),
        ABS("abs", 1, FUNCTION, T), FLOOR("floor", 1, FUNCTION + 10, D),
        CEIL("ceil", 1, FUNCTION + 20, D), RINT("rint", 1, FUNCTION + 30, D),
        SIGN("sign", 1, FUNCTION + 40, D), MIN("min", 2, FUNCTION + 50, T),
        MAX("max", 2, FUNCTION + 60, T), BYTE("byte", 1, CONVERT + 51, I),
        SHORT("short", 1, CONVERT + 52, I), CHAR("char", 1, CONVERT + 53, I),
        INT("int", 1, 0, I), LONG("long", 1, 0, J), FLOAT("float", 1, 0, F),
        DOUBLE("double", 1, 0, D),
        EQUAL("=", TEST_LEVEL, RELATE), UNEQUAL("!=", TEST_LEVEL, RELATE + 1),
        LESS("<", TEST_LEVEL, RELATE + 2), MORE(">", TEST_LEVEL, RELATE + 3),
        AT_MOST("<=", TEST_LEVEL, RELATE + 4), AT_LEAST(">=", TEST_LEVEL, RELATE + 5),
        BOTH("&", MIX_LEVEL, 600), EITHER("|", MIX_LEVEL, 700), ONE("^", MIX_LEVEL, 800),
        LEFT("<<", SHIFT_LEVEL, 900), RIGHT(">>", SHIFT_LEVEL, 1000),
        RIGHT_BARE(">>>", SHIFT_LEVEL, 1100),
        PLUS("+", PLUS_LEVEL, 100), MINUS("-", PLUS_LEVEL, 200),
        TIMES("*", TIMES_LEVEL, 300), OVER("/", TIMES_LEVEL, 400), REST("%", TIMES_LEVEL, 500),
        TURN("~"), OPEN("("), CLOSE(")"), OPEN_INDEX("["), CLOSE_INDEX("]"), COMMA(","),
        ASK("?"), ELSE(":"), BECOMES(":=");

        private static final Mark[] ALL = values();

        private final String text;
        /** How close it binds, if it joins two sums. */
        private final int level;
        private final int op;
        /** How many sums a function takes; 0: it is none. */
        private final int takes;
        /** The KIND that a function makes of what it takes; T: it leaves it. */
        private final int wants;

        Mark() {
            this("", NO_LEVEL, 0, 0, T);
        }

        Mark(String text) {
            this(text, NO_LEVEL, 0, 0, T);
        }

        Mark(String text, int level, int op) {
            this(text, level, op, 0, T);
        }

        Mark(String text, int takes, int op, int wants) {
            this(text, NO_LEVEL, op, takes, wants);
        }

        Mark(String text, int level, int op, int takes, int wants) {
            this.text = text;
            this.level = level;
            this.op = op;
            this.takes = takes;
            this.wants = wants;
        }
    }

    /**
     * Reads THE TAPE, always one TOKEN ahead. After the first FAULT the TOKEN stays one that
     * can stand nowhere, so that whoever reads comes to an end by himself.
     */
    private static final class Scanner {
        private static final int MOST_FIGURES = 9;
        private static final long TOO_GREAT = 2147483648L;

        private final Tape tape;
        private Mark mark;
        private int place;
        private int next;
        private int number;
        private double real;
        private int fault;
        private int faultPlace;

        Scanner(Tape tape) {
            this.tape = tape;
            mark = Mark.END;
        }

        void start() {
            next = 0;
            fault = 0;
            faultPlace = 0;
            take();
        }

        void refuse(int kind, int at) {
            if (fault == 0) {
                fault = kind;
                faultPlace = at;
                mark = Mark.STRANGE;
            }
        }

        void take() {
            if (fault != 0) {
                return;
            }
            for (int i = 0; i < Tape.MOST && isBlank(tape.at(next)); i++) {
                next++;
            }
            place = next;
            int first = tape.at(place);
            if (first == NONE) {
                mark = Mark.END;
            } else if (isLetter(first)) {
                readWord();
            } else if (isFigure(first)) {
                readFigures();
            } else if (first == '$') {
                readColumn();
            } else {
                readSign();
            }
        }

        private static boolean isBlank(int b) {
            return b == 32 || b == 10;
        }

        private static boolean isLetter(int b) {
            return b >= 'a' && b <= 'z';
        }

        private static boolean isFigure(int b) {
            return b >= '0' && b <= '9';
        }

        private void readWord() {
            for (int i = 0; i < Tape.MOST && isLetter(tape.at(next)); i++) {
                next++;
            }
            mark = Mark.STRANGE;
            int length = next - place;
            for (int i = 0; i < Mark.ALL.length; i++) {
                if (Mark.ALL[i].text.length() == length && tape.hasAt(place, Mark.ALL[i].text)) {
                    mark = Mark.ALL[i];
                }
            }
        }

        private void readSign() {
            Mark longest = Mark.END;
            for (int i = 0; i < Mark.ALL.length; i++) {
                String text = Mark.ALL[i].text;
                if (text.length() > longest.text.length() && tape.hasAt(place, text)) {
                    longest = Mark.ALL[i];
                }
            }
            if (longest == Mark.END) {
                refuse(NO_TOKEN, place);
                return;
            }
            mark = longest;
            next = place + longest.text.length();
        }

        private void readColumn() {
            int figure = tape.at(place + 1);
            if (!isFigure(figure)) {
                refuse(NO_TOKEN, place);
                return;
            }
            mark = Mark.COLUMN;
            number = figure - '0';
            next = place + 2;
        }

        private void readFigures() {
            long all = 0;
            int figures = 0;
            int point = NONE;
            long tens = 1;
            for (int i = 0; i < Tape.MOST; i++) {
                int b = tape.at(next);
                if (isFigure(b)) {
                    // Once it is too great it stays so, however many figures follow.
                    all = Math.min(all * 10 + b - '0', TOO_GREAT);
                    figures++;
                    tens = point == NONE ? 1 : Math.min(tens * 10, TOO_GREAT);
                } else if (b == '.' && point == NONE && isFigure(tape.at(next + 1))) {
                    point = next;
                } else {
                    break;
                }
                next++;
            }
            if (point == NONE ? all >= TOO_GREAT : figures > MOST_FIGURES) {
                refuse(NO_TOKEN, place);
                return;
            }
            mark = point == NONE ? Mark.NUMBER : Mark.REAL;
            number = (int) all;
            real = (double) all / (double) tens;
        }
    }

    /**
     * One PART while it is made. It goes on counting beyond what it can hold: such a code is
     * refused in the end, when nothing else was wrong with the text.
     */
    private static final class Code {
        static final int MOST = 200, PILE = 24;

        private final int[] ops;
        private final int[] numbers;
        private int size;
        private int height;
        private int peak;

        Code() {
            ops = new int[MOST];
            numbers = new int[MOST];
        }

        void begin() {
            size = 0;
            height = 0;
            peak = 0;
        }

        boolean isTooLong() {
            return size > MOST || peak > PILE;
        }

        void add(int op, int number) {
            if (size < MOST) {
                ops[size] = op;
                numbers[size] = number;
            }
            size++;
            height += change(op);
            peak = Math.max(peak, height);
        }

        /** A jump whose goal is not known yet: its place, for aim. */
        int addJump(int op) {
            add(op, 0);
            return size - 1;
        }

        void aim(int jump) {
            if (jump >= 0 && jump < MOST) {
                numbers[jump] = size;
            }
        }

        /** Where a jump arrives, the value of the way not taken is not on the PILE. */
        void otherWay() {
            height--;
        }

        void convert(int from, int to) {
            if (from != to) {
                add(conversion(from, to), 0);
            }
        }

        /**
         * Puts a conversion behind a left side that is found to need one. A jump to that very
         * place comes from within the left side, and must not miss it.
         */
        void convertAt(int at, int from, int to) {
            if (from == to) {
                return;
            }
            if (size < MOST) {
                for (int i = size; i > at; i--) {
                    ops[i] = ops[i - 1];
                    numbers[i] = numbers[i - 1];
                }
                ops[at] = conversion(from, to);
                numbers[at] = 0;
                moveGoals(at);
            }
            size++;
        }

        private void moveGoals(int at) {
            for (int i = 0; i <= size; i++) {
                if (ops[i] >= IF_NO && ops[i] <= ALWAYS && numbers[i] > at) {
                    numbers[i]++;
                }
            }
        }

        private static int conversion(int from, int to) {
            return CONVERT + 10 * from + to;
        }

        private static int change(int op) {
            if (op < FETCH) {
                return 1;
            }
            if (op < STORE) {
                return 0;
            }
            if (op < 100) {
                return -2;
            }
            boolean ofTwo = op < 1200 || op > COMPARE && op < RELATE
                    || op > FUNCTION + 50 && op < IF_NO;
            return ofTwo || op == IF_NO || op == IF_YES ? -1 : 0;
        }
    }

    /** A query that was read: its code, one PART behind the other, and what to do with it. */
    private static final class Query {
        private final int[] ops;
        private final int[] numbers;
        private final int[] starts;
        private final double[] reals;
        private final Mark form;
        private final Mark how;
        /** The KIND of what is folded, or ordered by. */
        private final int kind;
        /** The COLUMN that is set. */
        private final int target;
        /** 1 rising, -1 falling, 0 as they come. */
        private final int order;
        private final int first;

        Query(Judge judge) {
            Code[] parts = judge.parts;
            starts = new int[PARTS + 1];
            for (int p = 0; p < PARTS; p++) {
                starts[p + 1] = starts[p] + parts[p].size;
            }
            ops = new int[starts[PARTS]];
            numbers = new int[starts[PARTS]];
            for (int p = 0; p < PARTS; p++) {
                System.arraycopy(parts[p].ops, 0, ops, starts[p], parts[p].size);
                System.arraycopy(parts[p].numbers, 0, numbers, starts[p], parts[p].size);
            }
            reals = Arrays.copyOf(judge.reals, judge.realCount);
            form = judge.form;
            how = judge.how;
            kind = judge.kind;
            target = judge.target;
            order = judge.order;
            first = judge.first;
        }

        int size(int part) {
            return starts[part + 1] - starts[part];
        }

        int op(int part, int i) {
            return ops[starts[part] + i];
        }

        int number(int part, int i) {
            return numbers[starts[part] + i];
        }

        double real(int i) {
            return i >= 0 && i < reals.length ? reals[i] : 0.0;
        }
    }

    /** Reads a text by the grammar, judges its KINDS and makes its code, all in one go. */
    private static final class Judge {
        private static final int MOST_OPEN = 12;
        /** A REAL has three bytes and one between: no text has more. */
        private static final int MOST_REALS = 100;

        private final Scanner scanner;
        private final Columns columns;
        private final Code[] parts;
        private final double[] reals;
        private Code code;
        private int realCount;
        private int open;
        private Mark form;
        private Mark how;
        private int kind;
        private int target;
        private int order;
        private int first;

        Judge(Scanner scanner, Columns columns) {
            this.scanner = scanner;
            this.columns = columns;
            parts = new Code[PARTS];
            for (int p = 0; p < PARTS; p++) {
                parts[p] = new Code();
            }
            code = parts[0];
            reals = new double[MOST_REALS];
            form = Mark.FIND;
            how = Mark.COUNT;
        }

        int faultKind() {
            return scanner.fault;
        }

        int faultPlace() {
            return scanner.faultPlace;
        }

        /** The query that THE TAPE tells; null if it has a FAULT. */
        Query read() {
            begin();
            form = scanner.mark;
            if (took(Mark.FIND)) {
                readCondition();
                if (took(Mark.ORDER)) {
                    readOrder();
                }
                if (took(Mark.FIRST)) {
                    first = scanner.number;
                    expect(Mark.NUMBER);
                }
            } else if (took(Mark.FOLD)) {
                readHow();
                if (took(Mark.WHERE)) {
                    readCondition();
                }
                if (took(Mark.BY)) {
                    code = parts[2];
                    fit(isWhole(sum()), scanner.place);
                }
            } else if (took(Mark.SET)) {
                readSet();
                if (took(Mark.WHERE)) {
                    readCondition();
                }
            } else {
                misplaced();
            }
            if (scanner.mark != Mark.END) {
                misplaced();
            }
            if (parts[0].isTooLong() || parts[1].isTooLong() || parts[2].isTooLong()) {
                scanner.refuse(TOO_LONG, scanner.tape.length);
            }
            return scanner.fault == 0 ? new Query(this) : null;
        }

        private void begin() {
            for (int p = 0; p < PARTS; p++) {
                parts[p].begin();
            }
            realCount = 0;
            open = 0;
            how = Mark.COUNT;
            kind = J;
            target = NONE;
            order = 0;
            first = MOST_OBJECTS;
            scanner.start();
        }

        private void readCondition() {
            code = parts[0];
            fit(joined(OR_LEVEL) == T, scanner.place);
        }

        private void readOrder() {
            code = parts[1];
            int made = sum();
            fit(made != T, scanner.place);
            kind = D;
            code.convert(made, D);
            order = took(Mark.DOWN) ? -1 : 1;
        }

        private void readHow() {
            how = scanner.mark;
            if (took(Mark.COUNT)) {
                return;
            }
            if (how != Mark.SUM && how != Mark.MEAN && how != Mark.MIN && how != Mark.MAX) {
                misplaced();
            }
            scanner.take();
            code = parts[1];
            int made = sum();
            fit(made != T, scanner.place);
            kind = made;
            if (how == Mark.SUM) {
                kind = made <= J ? J : D;
            } else if (how == Mark.MEAN) {
                kind = D;
            }
            code.convert(made, kind);
        }

        private void readSet() {
            target = scanner.number;
            int lane = metColumn();
            expect(Mark.COLUMN);
            int joint = scanner.place;
            expect(Mark.BECOMES);
            code = parts[1];
            code.add(LAY_OBJECT, 0);
            int made = sum();
            fit((made == T) == (lane == Columns.TRUTHS), joint);
            code.convert(made, Columns.kindOf(lane));
            if (lane >= Columns.BYTES && lane <= Columns.CHARS) {
                code.add(CONVERT + 50 + lane, 0);
            }
            code.add(STORE + lane, target);
        }

        private int sum() {
            int made = joined(OR_LEVEL);
            return scanner.mark == Mark.ASK ? choice(made) : made;
        }

        private int choice(int asked) {
            openOne();
            fit(asked == T, scanner.place);
            expect(Mark.ASK);
            int toElse = code.addJump(IF_NO);
            int left = sum();
            int joint = scanner.place;
            expect(Mark.ELSE);
            int leftEnd = code.size;
            int toEnd = code.addJump(ALWAYS);
            code.aim(toElse);
            code.otherWay();
            int right = sum();
            open--;
            fit((left == T) == (right == T), joint);
            int made = Math.max(left, right);
            code.convert(right, made);
            // Aimed ahead of the left side's conversion, which moves this jump and its goal.
            code.aim(toEnd);
            code.convertAt(leftEnd, left, made);
            return made;
        }

        /** A sum whose joining SIGNS and WORDS bind at least as close as told. */
        private int joined(int least) {
            int most = TIMES_LEVEL;
            int made;
            if (least <= NOT_LEVEL && scanner.mark == Mark.NOT) {
                made = denied();
                most = AND_LEVEL;
            } else {
                made = signed();
            }
            for (int i = 0; i < Tape.MOST && isJoint(least, most); i++) {
                Mark mark = scanner.mark;
                int joint = scanner.place;
                // Of two tests in a row the second can't stand there.
                most = mark.level == TEST_LEVEL ? NOT_LEVEL : mark.level;
                int leftEnd = code.size;
                if (mark.level <= AND_LEVEL) {
                    code.addJump(mark.op);
                }
                scanner.take();
                int right = joined(mark.level + 1);
                fit(fits(mark, made, right), joint);
                made = mark.level <= AND_LEVEL ? joinTruths(mark, leftEnd)
                        : joinValues(mark, leftEnd, made, right);
            }
            return made;
        }

        private boolean isJoint(int least, int most) {
            return scanner.mark.level >= least && scanner.mark.level <= most;
        }

        private static boolean fits(Mark mark, int left, int right) {
            boolean truths = left == T && right == T;
            boolean wholes = isWhole(left) && isWhole(right);
            switch (mark.level) {
                case OR_LEVEL:
                case AND_LEVEL:
                    return truths;
                case MIX_LEVEL:
                    return truths || wholes;
                case SHIFT_LEVEL:
                    return wholes;
                default:
                    boolean alike = mark == Mark.EQUAL || mark == Mark.UNEQUAL;
                    return left != T && right != T || truths && alike;
            }
        }

        private int joinTruths(Mark mark, int jump) {
            int toEnd = code.addJump(ALWAYS);
            code.aim(jump);
            code.otherWay();
            code.add(LAY, mark == Mark.OR ? 1 : 0);
            code.aim(toEnd);
            return T;
        }

        private int joinValues(Mark mark, int leftEnd, int left, int right) {
            if (mark.level == SHIFT_LEVEL) {
                code.convert(right, I);
                code.add(mark.op + left, 0);
                return left;
            }
            int made = Math.max(left, right);
            code.convert(right, made);
            code.convertAt(leftEnd, left, made);
            int ofKind = Math.max(made, I);
            if (mark.level == TEST_LEVEL) {
                code.add(COMPARE + ofKind, 0);
                code.add(mark.op, 0);
                return T;
            }
            code.add(mark.op + ofKind, 0);
            return made;
        }

        private int denied() {
            int joint = scanner.place;
            openOne();
            scanner.take();
            int made = joined(NOT_LEVEL);
            open--;
            fit(made == T, joint);
            code.add(DENY, 0);
            return T;
        }

        private int signed() {
            Mark mark = scanner.mark;
            if (mark != Mark.MINUS && mark != Mark.TURN) {
                return part();
            }
            int joint = scanner.place;
            openOne();
            scanner.take();
            int made = signed();
            open--;
            fit(mark == Mark.MINUS ? made != T : isWhole(made), joint);
            code.add((mark == Mark.MINUS ? 1200 : 1300) + made, 0);
            return made;
        }

        private int part() {
            Mark mark = scanner.mark;
            if (mark == Mark.NUMBER) {
                return laid(LAY, scanner.number, I);
            }
            if (mark == Mark.REAL) {
                return laid(LAY_REAL, keepReal(), D);
            }
            if (mark == Mark.ROW) {
                return laid(LAY_OBJECT, 0, I);
            }
            if (mark == Mark.YES || mark == Mark.NO) {
                return laid(LAY, mark == Mark.YES ? 1 : 0, T);
            }
            if (mark == Mark.COLUMN) {
                return cellOf();
            }
            if (mark != Mark.OPEN) {
                return function();
            }
            openOne();
            scanner.take();
            int made = sum();
            expect(Mark.CLOSE);
            open--;
            return made;
        }

        private int laid(int op, int number, int kindLaid) {
            code.add(op, number);
            scanner.take();
            return kindLaid;
        }

        private int keepReal() {
            if (realCount < MOST_REALS) {
                reals[realCount] = scanner.real;
                realCount++;
            }
            return realCount - 1;
        }

        private int cellOf() {
            int column = scanner.number;
            int lane = metColumn();
            scanner.take();
            if (scanner.mark == Mark.OPEN_INDEX) {
                int joint = scanner.place;
                openOne();
                scanner.take();
                int made = sum();
                expect(Mark.CLOSE_INDEX);
                open--;
                fit(made == I, joint);
            } else {
                code.add(LAY_OBJECT, 0);
            }
            code.add(FETCH + lane, column);
            return Columns.kindOf(lane);
        }

        /** The LANE of the COLUMN that is the TOKEN now; some LANE if there is a FAULT. */
        private int metColumn() {
            if (scanner.mark != Mark.COLUMN) {
                misplaced();
                return Columns.TRUTHS;
            }
            int lane = columns.laneOf(scanner.number);
            if (lane == NONE) {
                scanner.refuse(MISSING, scanner.place);
                return Columns.TRUTHS;
            }
            return lane;
        }

        private int function() {
            Mark mark = scanner.mark;
            if (mark.takes == 0) {
                misplaced();
                return T;
            }
            scanner.take();
            int joint = scanner.place;
            if (scanner.mark == Mark.OPEN) {
                openOne();
            }
            expect(Mark.OPEN);
            int left = sum();
            int leftEnd = code.size;
            int right = left;
            if (mark.takes == 2) {
                expect(Mark.COMMA);
                right = sum();
            }
            expect(Mark.CLOSE);
            open--;
            fit(left != T && right != T, joint);
            return applied(mark, left, leftEnd, right);
        }

        private int applied(Mark mark, int left, int leftEnd, int right) {
            int made = Math.max(left, right);
            if (mark.wants != T && !(mark == Mark.SIGN && made == F)) {
                made = mark.wants;
            }
            code.convert(right, made);
            if (mark.takes == 2) {
                code.convertAt(leftEnd, left, made);
            }
            if (mark.op >= FUNCTION) {
                code.add(mark.op + made, 0);
            } else if (mark.op != 0) {
                code.add(mark.op, 0);
            }
            return made;
        }

        private static boolean isWhole(int kind) {
            return kind == I || kind == J;
        }

        private void openOne() {
            if (open >= MOST_OPEN) {
                scanner.refuse(TOO_DEEP, scanner.place);
            }
            open++;
        }

        private void fit(boolean fits, int joint) {
            if (!fits) {
                scanner.refuse(UNFIT, joint);
            }
        }

        private boolean took(Mark mark) {
            if (scanner.mark != mark) {
                return false;
            }
            scanner.take();
            return true;
        }

        private void expect(Mark mark) {
            if (scanner.mark != mark) {
                misplaced();
            }
            scanner.take();
        }

        private void misplaced() {
            scanner.refuse(OUT_OF_PLACE, scanner.place);
        }
    }

    /** The PILE: a value lies in the row that its KIND has (truths and I, J; F and D). */
    private static final class Pile {
        private final long[] wholes;
        private final double[] reals;
        private int height;

        Pile() {
            wholes = new long[Code.PILE];
            reals = new double[Code.PILE];
        }

        void empty() {
            height = 0;
        }

        void lay(long v) {
            if (height < Code.PILE) {
                wholes[height] = v;
                height++;
            }
        }

        void layReal(double v) {
            if (height < Code.PILE) {
                reals[height] = v;
                height++;
            }
        }

        long take() {
            if (height > 0) {
                height--;
                return wholes[height];
            }
            return 0;
        }

        double takeReal() {
            if (height > 0) {
                height--;
                return reals[height];
            }
            return 0.0;
        }
    }

    /** What is known of the latest RUN. */
    private static final class Latest {
        static final int MOST_GROUPS = 8;
        /** The PART of what comes of a fold itself. */
        static final int FOLDING = 3;

        private int number;
        private int fault;
        private int part;
        private int place;
        private int done;
        private int hits;
        private boolean ofGroups;
        /** The OBJECTS of HITS; of GROUPS how many they have. */
        private final int[] who;
        private final double[] scores;
        private final long[] keys;
        private final long[] wholes;
        private final double[] reals;
        private Mark how;
        private int kind;

        Latest() {
            who = new int[MOST_OBJECTS];
            scores = new double[MOST_OBJECTS];
            keys = new long[MOST_GROUPS];
            wholes = new long[MOST_GROUPS];
            reals = new double[MOST_GROUPS];
            how = Mark.COUNT;
            number = NONE;
            part = NONE;
            place = NONE;
        }

        void forget() {
            number = NONE;
            fault = 0;
            part = NONE;
            place = NONE;
            done = 0;
            hits = 0;
            ofGroups = false;
        }

        void begin(int q, Query query) {
            forget();
            number = q;
            how = query.how;
            kind = query.kind;
            ofGroups = query.form == Mark.FOLD;
            // Without by there is one GROUP, also if no OBJECT comes.
            if (ofGroups && query.size(2) == 0) {
                openGroup(0);
            }
        }

        void fail(int fault, int part, int place) {
            this.fault = fault;
            this.part = part;
            this.place = place;
            hits = 0;
        }

        boolean isHit(int k) {
            return k >= 0 && k < hits;
        }

        /** Where likes are, the new one comes behind them, as OBJECTS come rising. */
        void insert(int object, double score, int order) {
            if (hits >= MOST_OBJECTS) {
                return;
            }
            int at = hits;
            for (int i = hits; i > 0 && order * Reals.compared(score, scores[i - 1]) < 0; i--) {
                who[i] = who[i - 1];
                scores[i] = scores[i - 1];
                at = i - 1;
            }
            who[at] = object;
            scores[at] = score;
            hits++;
        }

        void keepFirst(int most) {
            hits = Math.min(hits, most);
        }

        private void openGroup(long key) {
            who[hits] = 0;
            keys[hits] = key;
            wholes[hits] = 0;
            reals[hits] = 0.0;
            hits++;
        }

        /** The FAULT of it; 0: none. */
        int fold(long key, long whole, double real) {
            int g = groupOf(key);
            if (g >= MOST_GROUPS) {
                return ROOM;
            }
            if (g == hits) {
                openGroup(key);
            }
            if (kind <= J) {
                wholes[g] = foldedWhole(g, whole);
            } else if (isSummed() && Reals.isLost(1, reals[g], real)) {
                return ENDLESS;
            } else {
                reals[g] = foldedReal(g, real);
            }
            who[g]++;
            return 0;
        }

        /** The place behind the last GROUP, if there is none with that KEY. */
        private int groupOf(long key) {
            for (int g = 0; g < hits; g++) {
                if (keys[g] == key) {
                    return g;
                }
            }
            return hits;
        }

        private boolean isSummed() {
            return how == Mark.SUM || how == Mark.MEAN;
        }

        private long foldedWhole(int g, long v) {
            if (how == Mark.COUNT) {
                return wholes[g] + 1;
            }
            if (how == Mark.SUM) {
                return wholes[g] + v;
            }
            if (who[g] == 0) {
                return v;
            }
            return how == Mark.MIN ? Math.min(wholes[g], v) : Math.max(wholes[g], v);
        }

        private double foldedReal(int g, double v) {
            if (isSummed()) {
                return reals[g] + v;
            }
            if (who[g] == 0) {
                return v;
            }
            return how == Mark.MIN ? Reals.lesser(reals[g], v) : Reals.greater(reals[g], v);
        }

        long valueBits(int g) {
            if (kind <= J) {
                return wholes[g];
            }
            if (kind == F) {
                return Reals.bitsOfFloat(reals[g]);
            }
            boolean divided = how == Mark.MEAN && who[g] > 0;
            return Reals.bitsOfDouble(divided ? reals[g] / who[g] : reals[g]);
        }
    }

    /** Goes through the OBJECTS and does the ACTS of a query for each. */
    private static final class Machine {
        private final Columns columns;
        private final Latest latest;
        private final Pile pile;
        private Query query;
        private int object;
        private int next;

        Machine(Columns columns, Latest latest) {
            this.columns = columns;
            this.latest = latest;
            pile = new Pile();
        }

        int go(Query asked, int number, int objects) {
            query = asked;
            latest.begin(number, query);
            columns.keep(query.target);
            for (int i = 0; i < objects; i++) {
                object = i;
                if (!visit()) {
                    columns.giveBack();
                    return FAILED - object;
                }
            }
            latest.keepFirst(query.first);
            return latest.hits;
        }

        /** Whether all went well. */
        private boolean visit() {
            if (query.size(0) > 0) {
                if (!perform(0)) {
                    return false;
                }
                if (pile.take() == 0) {
                    return true;
                }
            }
            if (!perform(1)) {
                return false;
            }
            boolean ofReals = query.kind >= F;
            long whole = ofReals ? 0 : pile.take();
            double real = ofReals ? pile.takeReal() : 0.0;
            if (!perform(2)) {
                return false;
            }
            if (query.form != Mark.FOLD) {
                latest.insert(object, real, query.order);
                return true;
            }
            int fault = latest.fold(pile.take(), whole, real);
            if (fault != 0) {
                latest.fail(fault, Latest.FOLDING, 0);
            }
            return fault == 0;
        }

        private boolean perform(int part) {
            pile.empty();
            next = 0;
            int size = query.size(part);
            for (int i = 0; i < size && next < size; i++) {
                int here = next;
                next++;
                int fault = step(query.op(part, here), query.number(part, here));
                if (fault != 0) {
                    latest.fail(fault, part, here);
                    return false;
                }
                latest.done++;
            }
            return true;
        }

        /** Does one ACT: its FAULT, 0 if there is none. */
        private int step(int op, int number) {
            int group = op / 100;
            int k = op % 100;
            if (op >= STORE && group == 0) {
                return store(op - STORE, number);
            }
            if (op >= FETCH && group == 0) {
                return fetch(op - FETCH, number);
            }
            if (group >= 1 && group <= 5) {
                return k >= F ? joinReals(group, k) : joinWholes(group, k);
            }
            if (group == 0) {
                layGiven(op, number);
            } else if (group <= 11) {
                joinBits(group, k);
            } else if (group <= 13) {
                turn(group, k);
            } else if (group == 14) {
                compare(k);
            } else if (group == 15) {
                pile.lay(holds(k, pile.take()) ? 1 : 0);
            } else if (group == 16) {
                convert(k / 10, k % 10);
            } else if (group == 17 && k % 10 >= F) {
                applyToReals(k / 10);
            } else if (group == 17) {
                applyToWholes(k / 10, k % 10);
            } else {
                jump(op, number);
            }
            return 0;
        }

        private void layGiven(int op, int number) {
            if (op == LAY_REAL) {
                pile.layReal(query.real(number));
            } else {
                pile.lay(op == LAY ? number : object);
            }
        }

        private int fetch(int lane, int column) {
            long i = pile.take();
            int fault = columns.cellFault(column, lane, i);
            if (fault != 0) {
                return fault;
            }
            if (lane >= Columns.FLOATS) {
                pile.layReal(columns.realAt(column, (int) i));
            } else {
                pile.lay(columns.wholeAt(column, (int) i));
            }
            return 0;
        }

        private int store(int lane, int column) {
            boolean ofReals = lane >= Columns.FLOATS;
            long whole = ofReals ? 0 : pile.take();
            double real = ofReals ? pile.takeReal() : 0.0;
            long i = pile.take();
            int fault = columns.cellFault(column, lane, i);
            if (fault != 0) {
                return fault;
            }
            if (ofReals) {
                columns.setReal(column, (int) i, real);
            } else {
                columns.setWhole(column, (int) i, whole);
            }
            return 0;
        }

        /** In longs, of which an int keeps the lowest bits: those are right for all five. */
        private int joinWholes(int how, int k) {
            long y = pile.take();
            long x = pile.take();
            if (how >= 4 && y == 0) {
                return ZERO;
            }
            long v;
            switch (how) {
                case 1:
                    v = x + y;
                    break;
                case 2:
                    v = x - y;
                    break;
                case 3:
                    v = x * y;
                    break;
                case 4:
                    v = x / y;
                    break;
                default:
                    v = x % y;
            }
            pile.lay(k == I ? (int) v : v);
            return 0;
        }

        private int joinReals(int how, int k) {
            double y = pile.takeReal();
            double x = pile.takeReal();
            if (Reals.isLost(how, x, y)) {
                return ENDLESS;
            }
            pile.layReal(k == F ? Reals.joinedFloats(how, (float) x, (float) y)
                    : Reals.joined(how, x, y));
            return 0;
        }

        private void joinBits(int group, int k) {
            long y = pile.take();
            long x = pile.take();
            switch (group) {
                case 6:
                    pile.lay(x & y);
                    break;
                case 7:
                    pile.lay(x | y);
                    break;
                case 8:
                    pile.lay(x ^ y);
                    break;
                case 9:
                    pile.lay(k == I ? (int) x << (int) y : x << (int) y);
                    break;
                case 10:
                    pile.lay(k == I ? (int) x >> (int) y : x >> (int) y);
                    break;
                default:
                    pile.lay(k == I ? (int) x >>> (int) y : x >>> (int) y);
            }
        }

        private void turn(int group, int k) {
            if (k >= F) {
                pile.layReal(-pile.takeReal());
                return;
            }
            long x = pile.take();
            long v = group == 12 ? -x : ~x;
            pile.lay(k == I ? (int) v : v);
        }

        private void compare(int k) {
            if (k >= F) {
                double y = pile.takeReal();
                pile.lay(Reals.compared(pile.takeReal(), y));
            } else {
                long y = pile.take();
                pile.lay(Long.compare(pile.take(), y));
            }
        }

        private static boolean holds(int relation, long compared) {
            switch (relation) {
                case 0:
                    return compared == 0;
                case 1:
                    return compared != 0;
                case 2:
                    return compared < 0;
                case 3:
                    return compared > 0;
                case 4:
                    return compared <= 0;
                default:
                    return compared >= 0;
            }
        }

        private void convert(int from, int to) {
            if (from == 5) {
                int v = (int) pile.take();
                pile.lay(to == 1 ? (byte) v : to == 2 ? (short) v : (char) v);
            } else if (from >= F) {
                convertReal(pile.takeReal(), to);
            } else {
                convertWhole(pile.take(), to);
            }
        }

        private void convertReal(double x, int to) {
            if (to == I) {
                pile.lay((int) x);
            } else if (to == J) {
                pile.lay((long) x);
            } else {
                pile.layReal(to == F ? (float) x : x);
            }
        }

        private void convertWhole(long x, int to) {
            if (to == F) {
                pile.layReal((float) x);
            } else if (to == D) {
                pile.layReal((double) x);
            } else {
                pile.lay(to == I ? (int) x : x);
            }
        }

        private void applyToWholes(int function, int k) {
            long y = pile.take();
            if (function == 0) {
                long v = y < 0 ? -y : y;
                pile.lay(k == I ? (int) v : v);
            } else {
                long x = pile.take();
                pile.lay(function == 5 ? Math.min(x, y) : Math.max(x, y));
            }
        }

        private void applyToReals(int function) {
            double y = pile.takeReal();
            switch (function) {
                case 0:
                    pile.layReal(Reals.magnitude(y));
                    break;
                case 1:
                    pile.layReal(Reals.floor(y));
                    break;
                case 2:
                    // By way of floor, as what comes of -0.5 must be -0.0.
                    pile.layReal(-Reals.floor(-y));
                    break;
                case 3:
                    pile.layReal(Reals.nearest(y));
                    break;
                case 4:
                    pile.layReal(Reals.signOf(y));
                    break;
                case 5:
                    pile.layReal(Reals.lesser(pile.takeReal(), y));
                    break;
                default:
                    pile.layReal(Reals.greater(pile.takeReal(), y));
            }
        }

        private void jump(int op, int goal) {
            if (op == DENY) {
                pile.lay(pile.take() == 0 ? 1 : 0);
            } else if (op == ALWAYS) {
                next = goal;
            } else if ((pile.take() != 0) == (op == IF_YES)) {
                next = goal;
            }
        }
    }
}
