import java.util.Map;

/** Boundaries of the code and of each ACT: ==== 3, promises 13 and 14. */
public final class CodeEdgesTest extends Edges {
    private static final int INDEX = 2, CAST = 3, ZERO = 4, ENDLESS = 5;
    private static final float FLOAT_INFINITE = Float.POSITIVE_INFINITY;
    private static final Map<String, Integer> QUERIES_OF = Map.of("new", 0, "full", 12, "failed", 2, "cleared", 0);

    public static void main(String[] args) {
        new CodeEdgesTest().close();
    }

    @Override
    void sentences() {
        test("PARTS 0 (where, the or of find), 1 (sum, order; the sum of set, how), 2 (by)", this::parts);
        test("rows of ACTS, each an op and a number a.", this::opsAndNumbers);
        test("Both sides stand one behind the other, the left one first, each with what makes it of the KIND wanted right behind it,"
            + " then the ACT", this::sides);
        test("1 lays a.", this::numbers);
        test("2 lays REAL a of the query (by their order in the text).", this::reals);
        test("3 lays the OBJECT.", this::objects);
        test("10 + l takes an index, lays that CELL of COLUMN a, TAKEN as LANE l (as T, I, J, F, D)", this::cells);
        test("(as T, I, J, F, D): CAST, NULL, INDEX.", this::cellFaults);
        test("(A COLUMN without [ ] has 3 ahead of it; yes, no are 1 with 1, 0.)", this::cellsOfObjects);
        test("20 + l takes a value, then an index: that CELL becomes it", this::stores);
        test("(3 stands ahead of set's sum, which becomes what the LANE has as by casts, then 20 + l)", this::castsOfStores);
        test("then 20 + l): likewise.", this::storeFaults);

        test("With k 1 I, 2 J, 3 F, 4 D: 100 + k + (of the two on top), 200 -, 300 *", this::plusMinusTimes);
        test("400 / (ZERO; ENDLESS)", this::divisions);
        test("500 % (likewise)", this::remainders);
        test("600 &, 700 |, 800 ^ (T as k 1)", this::mixes);
        test("900 <<, 1000 >>, 1100 >>> (the second an int)", this::shifts);
        test("1200 + k less itself", this::negations);
        test("1300 + k all bits turned", this::turned);
        test("1400 + k -1, 0, 1: the first is less, as much, more (T as k 1), 1500 + r (r 0 =, 1 !=, 2 <, 3 >, 4 <=, 5 >=) a truth by"
            + " what 1400 laid.", this::comparisons);
        test("1600 + 10 i + k KIND i becomes KIND k", this::conversions);
        test("1651, 1652, 1653 an int as a byte, short, char.", this::narrowed);
        test("(100 to 300 of F, D: ENDLESS too.)", this::noNumbers);
        test("1700 + k abs", this::magnitudes);
        test("1711 floor, 1721 ceil, 1731 rint (of doubles, each with a 4 behind: 1714, 1724, 1734)", this::rounded);
        test("1740 + k sign (k 3, 4: 1.0, -1.0, or itself)", this::signs);
        test("1750 + k min, 1760 + k max", this::leastAndMost);
        test("(-0.0 is less than 0.0)", this::zeros);
        test("1800, 1801, 1802: to ACT a if the truth taken is no, is yes, always. 1810 not.", this::jumps);
        test("x and y: x, 1800 to e, y, 1802 to f, e: 1 with 0, f.", this::ands);
        test("x or y: x, 1801 to e, y, 1802 to f, e: 1 with 1, f.", this::ors);
        test("c ? x : y: c, 1800 to e, x, 1802 to f, e: y, f.", this::choices);
        test("(f may be the end.", this::jumpsToTheEnd);
        test("- before a NUMBER is an ACT, too", this::negativeNumbers);
        test("all else as Java has it.)", this::asJavaHasIt);
        test("A long that is taken as int << .. is 1600 + 21.", this::longsToShiftBy);
        test("Where a KIND is wanted that it has: nothing.", this::nothing);

        test("`int acts(int q, int part)`: How many ACTS a PART of a query has. BAD.", this::promise13);
        test("`int act(int q, int part, int i, int what)`: ACT i: its op (what 0), a (1; 0 where it has none).", this::promise14);
        test("0 where it has none). BAD is -2 here.", this::noSuchAct);
    }

    /** One OBJECT, and COLUMNS of one CELL each: an Integer, Long, Float, Double or Boolean. */
    private static Probe one(Object... cells) {
        Probe x = new Probe();
        x.objects(1);
        for (int c = 0; c < cells.length; c++) {
            Object v = cells[c];
            int lane = v instanceof Boolean ? 0 : v instanceof Integer ? 4 : v instanceof Long ? 5 : v instanceof Float ? 6 : 7;
            x.row(c, lane, bitsOf(v));
        }
        return x;
    }

    private static long bitsOf(Object v) {
        if (v instanceof Boolean) {
            return (Boolean) v ? 1 : 0;
        }
        if (v instanceof Float) {
            return bits((float) (Float) v);
        }
        return v instanceof Double ? bits((double) (Double) v) : ((Number) v).longValue();
    }

    /** What the sum comes to, of those CELLS. */
    private void comes(Object want, String sum, Object... cells) {
        Probe x = one(cells);
        String call = sum + " of " + java.util.Arrays.toString(cells);
        due("run of " + call, x.ran("fold max " + sum), 1);
        due(call, x.value(0), bitsOf(want));
    }

    private void holds(boolean want, String truth, Object... cells) {
        due(truth + " of " + java.util.Arrays.toString(cells), one(cells).ran("find " + truth), want ? 1 : 0);
    }

    /** The sum fails at that ACT, and nothing comes. */
    private void fails(int fault, int act, String sum, Object... cells) {
        Probe x = one(cells);
        String call = sum + " of " + java.util.Arrays.toString(cells);
        due("run of " + call, x.ran("fold max " + sum), -10);
        due("FAULT of " + call, x.told(0), fault);
        due("PART of " + call, x.told(1), 1);
        due("ACT of " + call, x.told(2), act);
    }

    private void parts() {
        code("find yes", "1:1", "", "");
        code("find yes order 1", "1:1", "1:1 1614", "");
        code("find yes order 1 down first 5", "1:1", "1:1 1614", "");
        code("fold count", "", "", "");
        code("fold count where yes", "1:1", "", "");
        code("fold count by 2", "", "", "1:2");
        code("fold max 3 where yes by 2", "1:1", "1:3", "1:2");
        code("set $4 := 5", "", "3 1:5 24:4", "");
        code("set $4 := 5 where no", "1:0", "3 1:5 24:4", "");
    }

    private void opsAndNumbers() {
        Probe x = lanes();
        x.query("fold max 7+2147483647");
        int[] ops = {1, 1, 101};
        int[] numbers = {7, MAX, 0};
        for (int i = 0; i < ops.length; i++) {
            due("op " + i, x.act(0, 1, i, 0), ops[i]);
            due("number " + i, x.act(0, 1, i, 1), numbers[i]);
        }
        code("find yes or $0", "1:1 1801:5 3 10:0 1802:6 1:1");
        code("set $7 := $6", "", "3 3 16:6 1634 27:7");
    }

    private void sides() {
        sum("1+2.5", "1:1 1614 2:0 104");
        sum("2.5+1", "2:0 1:1 1614 104");
        sum("1+2+2.5", "1:1 1:2 101 1614 2:0 104");
        sum("2.5+(1+2)", "2:0 1:1 1:2 101 1614 104");
        sum("1*2+$5", "1:1 1:2 301 1612 3 15:5 102");
        sum("1+(yes?2:3)*2.5", "1:1 1614 1:1 1800:6 1:2 1802:7 1:3 1614 2:0 304 104");
        sum("(yes?2:3)+2.5", "1:1 1800:4 1:2 1802:5 1:3 1614 2:0 104");
        sum("min(1,2.5)", "1:1 1614 2:0 1754");
        sum("max(2.5,1)", "2:0 1:1 1614 1764");
        sum("min($4[1],$5[1])", "1:1 14:4 1612 1:1 15:5 1752");
        truth("1<2.5", "1:1 1614 2:0 1404 1502");
        sum("yes?1:2.5", "1:1 1800:5 1:1 1614 1802:6 2:0");
        sum("yes?2.5:1", "1:1 1800:4 2:0 1802:6 1:1 1614");
    }

    private void numbers() {
        sum("0", "1:0");
        sum("2147483647", "1:2147483647");
        comes(0, "0");
        comes(MAX, "2147483647");
    }

    private void reals() {
        sum("0.0", "2:0");
        sum("1.5+1.5", "2:0 2:1 104");
        code("find 1.5<2.5 order 3.5", "2:0 2:1 1404 1502", "2:2");
        code("fold max 1.5 where 2.5<3.5 by int(4.5)", "2:1 2:2 1404 1502", "2:0", "2:3 1641");
        code("set $7 := 1.5 where 2.5<3.5", "2:1 2:2 1404 1502", "3 2:0 27:7");
        Probe x = new Probe();
        x.objects(1);
        StringBuilder text = new StringBuilder("fold max 0.5");
        for (int i = 1; i < 97; i++) {
            text.append('+').append(i % 10).append(".5");
        }
        due("97 REALS", x.query(text.toString()), 0);
        due("the number of the last", x.act(0, 1, 191, 1), 96);
        x.run(0);
        due("their sum", x.value(0), bits(97 * 0.5 + 9 * 45 + 21));
        // Another query's REALS are its own.
        x.query("fold max 8.5");
        due("the first of another query", x.act(1, 1, 0, 1), 0);
        x.run(0);
        due("the first one's still", x.value(0), bits(97 * 0.5 + 9 * 45 + 21));
    }

    private void objects() {
        sum("row", "3");
        Probe x = new Probe();
        x.objects(16);
        due("run", x.ran("fold max row by row&7"), 8);
        for (int g = 0; g < 8; g++) {
            due("the OBJECTS laid", x.value(g), g + 8);
            due("by", x.score(g), g);
        }
        x.objects(1);
        due("run of one", x.ran("fold max row"), 1);
        due("it is OBJECT 0", x.value(0), 0);
    }

    private void cells() {
        for (int lane = 1; lane < 8; lane++) {
            sum("$" + lane + "[2]", "1:2 1" + lane + ":" + lane);
        }
        truth("$0[2]", "1:2 10:0");
        Probe x = full();
        x.clear();
        for (int lane = 1; lane < 8; lane++) {
            x.put(lane, 0, lane < 6 ? -2 : lane == 6 ? bits(-2f) : bits(-2.0));
            x.end(0);
            x.ran("fold max $" + lane + "[0]");
            due("CELL 0 of LANE " + lane, x.value(0), lane == 3 ? 65534 : lane < 6 ? -2 : lane == 6 ? bits(-2f) : bits(-2.0));
            x.ran("fold max $" + lane + "[15]");
            due("CELL 15 of LANE " + lane, x.value(0), 1);
        }
        due("CELL 15 of truths", x.ran("find $0[15]"), 16);
        due("CELL 0 of truths", x.ran("find $0[0]"), 0);
    }

    private void cellFaults() {
        fails(INDEX, 2, "$0[-1]", 5);
        fails(INDEX, 1, "$0[1]", 5);
        fails(INDEX, 1, "$0[2147483647]", 5);
        fails(INDEX, 4, "$0[-2147483647-1]", 5);
        comes(5, "$0[0]", 5);
        for (int lane = 0; lane < 8; lane++) {
            Probe x = lanes();
            x.objects(1);
            x.query("find $" + lane + (lane == 0 ? " or yes" : "=$" + lane));
            for (int other = 0; other < 8; other++) {
                x.column(lane, other, 1);
                due("a CELL of LANE " + other + " as one of " + lane, x.run(0), other == lane ? 1 : -10);
                due("CAST", x.told(0), other == lane ? 0 : CAST);
                x.column(lane, other, 0);
                due("none of LANE " + other + " as one of " + lane, x.run(0), -10);
                due("CAST ahead of INDEX", x.told(0), other == lane ? INDEX : CAST);
            }
            x.drop(lane);
            due("a CELL of a MISSING one", x.run(0), -10);
            due("NULL", x.told(0), 1);
            due("at ACT", x.told(2), 1);
        }
    }

    private void cellsOfObjects() {
        sum("$4", "3 14:4");
        truth("$0", "3 10:0");
        sum("$7[row]", "3 17:7");
        sum("$4[$4]", "3 14:4 14:4");
        truth("yes", "1:1");
        truth("no", "1:0");
        Probe x = new Probe();
        x.objects(2);
        x.row(0, 4, 5);
        due("an OBJECT without a CELL", x.ran("fold max $0"), -11);
        due("INDEX", x.told(0), INDEX);
    }

    private void stores() {
        Probe x = new Probe();
        x.objects(3);
        x.row(0, 4, 9, 9, 9);
        due("run", x.ran("set $0 := 10-row"), 3);
        for (int i = 0; i < 3; i++) {
            due("CELL " + i, x.cell(0, i), 10 - i);
        }
        for (int lane = 0; lane < 8; lane++) {
            x.column(1, lane, 16);
            x.objects(16);
            due("set on LANE " + lane, x.ran("set $1 := " + (lane == 0 ? "row>=0" : "1")), 16);
            long want = lane < 6 ? 1 : lane == 6 ? bits(1f) : bits(1.0);
            due("CELL 0", x.cell(1, 0), want);
            due("CELL 15", x.cell(1, 15), want);
        }
    }

    private void castsOfStores() {
        String[] sums = {"1", "$5", "$6", "1.5"};
        String[] acts = {"1:1", "3 15:5", "3 16:6", "2:0"};
        for (int k = 0; k < 4; k++) {
            for (int lane = 1; lane < 8; lane++) {
                int to = lane <= 4 ? 1 : lane - 3;
                String casts = k + 1 == to ? "" : " 16" + (k + 1) + to;
                casts += lane < 4 ? " 165" + lane : "";
                code("set $" + lane + " := " + sums[k], "", "3 " + acts[k] + casts + " 2" + lane + ":" + lane);
            }
        }
        code("set $0 := yes", "", "3 1:1 20:0");
        // What does not go into the LANE becomes what a cast makes of it.
        double[] sets = {300.7, -1.0, 1e10, -1e10, 65536.0, 1e300, -1e300, INFINITE};
        for (double v : sets) {
            long[] want = {0, (byte) v, (short) v, (char) (int) v, (int) v, (long) v, bits((float) v), bits(v)};
            for (int lane = 1; lane < 8; lane++) {
                Probe x = one(v);
                x.column(1, lane, 1);
                due("set of " + v, x.ran("set $1 := $0"), 1);
                due(v + " in LANE " + lane, x.cell(1, 0), want[lane]);
            }
        }
    }

    private void storeFaults() {
        for (int lane = 0; lane < 8; lane++) {
            Probe x = new Probe();
            x.objects(1);
            x.column(0, lane, 1);
            x.query("set $0 := " + (lane == 0 ? "yes" : "byte(1)"));
            int acts = x.acts(0, 1);
            x.column(0, lane, 0);
            due("no CELL", x.run(0), -10);
            due("INDEX", x.told(0), INDEX);
            due("at 20 + l", x.told(2), acts - 1);
            x.column(0, (lane + 1) % 8, 0);
            due("another LANE", x.run(0), -10);
            due("CAST ahead of INDEX", x.told(0), CAST);
            x.drop(0);
            due("a MISSING one", x.run(0), -10);
            due("NULL", x.told(0), 1);
            due("at 20 + l", x.told(2), acts - 1);
            x.column(0, lane, 1);
            due("well again", x.run(0), 1);
        }
        Probe x = new Probe();
        x.objects(2);
        x.column(0, 4, 1);
        due("OBJECT 1 without a CELL", x.ran("set $0 := 7"), -11);
        due("the CELL of OBJECT 0 is as before", x.cell(0, 0), 0);
    }

    private void plusMinusTimes() {
        comes(MIN, "$0+1", MAX);
        comes(MAX, "$0-1", MIN);
        comes(MIN, "$0*-1", MIN);
        comes(1, "$0*$0", MAX);
        comes(-2, "$0+$0", MAX);
        comes(0, "$0*2", MIN);
        comes(0, "$0*0", 7);
        comes(0L, "$0*0", LOST);
        comes(7L, "$0-0", 7L);
        comes(LOST, "$0+1", Long.MAX_VALUE);
        comes(Long.MAX_VALUE, "$0-1", LOST);
        comes(LOST, "$0*-1", LOST);
        comes(2147483648L, "$0+long(1)", MAX);
        comes((float) INFINITE, "$0+$0", Float.MAX_VALUE);
        comes((float) INFINITE, "$0*$0", Float.MAX_VALUE);
        comes((float) -INFINITE, "-$0-$0", Float.MAX_VALUE);
        comes(0f, "$0*$0", Float.MIN_VALUE);
        comes(INFINITE, "$0+$0", Double.MAX_VALUE);
        comes(INFINITE, "$0*$0", Double.MAX_VALUE);
        comes(0.0, "$0*$0", Double.MIN_VALUE);
        comes(-0.0, "$0*-1", 0.0);
        comes(16777216f, "$0+float(1)", 16777216f);
        comes(0.1f + 0.2f, "$0+$1", 0.1f, 0.2f);
        comes(0.1 + 0.2, "$0+$1", 0.1, 0.2);
        comes(0.1f * 0.2f, "$0*$1", 0.1f, 0.2f);
        comes(0.0, "$0+$1", 0.0, -0.0);
        // The greatest that are not infinite.
        comes(0.0, "$0+$1", Double.MAX_VALUE, -Double.MAX_VALUE);
        comes(0.0, "$0-$0", -Double.MAX_VALUE);
        comes(-0.0, "$0*0", -Double.MAX_VALUE);
        comes(0.0, "$0*0", Double.MAX_VALUE);
        comes(0f, "$0-$0", -Float.MAX_VALUE);
        comes(-0.0, "$0+$0", -0.0);
        sum("1+2", "1:1 1:2 101");
        sum("$5-$5", "3 15:5 3 15:5 202");
        sum("$6*$6", "3 16:6 3 16:6 303");
        sum("$7+$7", "3 17:7 3 17:7 104");
    }

    private void divisions() {
        fails(ZERO, 3, "$0/0", 7);
        fails(ZERO, 3, "$0/0", 0);
        fails(ZERO, 4, "$0/$0", 0L);
        fails(ZERO, 4, "$0/0", 7L);
        comes(MIN, "$0/-1", MIN);
        comes(LOST, "$0/-1", LOST);
        comes(-3, "$0/2", -7);
        comes(-3L, "$0/2", -7L);
        comes(0, "1/$0", MAX);
        comes(INFINITE, "$0/0", 1.0);
        comes(-INFINITE, "$0/0", -1.0);
        comes(-INFINITE, "$0/$1", 1.0, -0.0);
        comes(FLOAT_INFINITE, "$0/0", 1f);
        comes(0.0, "1/$0", INFINITE);
        comes(-0.0, "-1/$0", INFINITE);
        comes(INFINITE, "$0/2", INFINITE);
        fails(ENDLESS, 4, "$0/$0", 0.0);
        fails(ENDLESS, 4, "$0/$1", 0.0, -0.0);
        fails(ENDLESS, 4, "$0/$0", INFINITE);
        fails(ENDLESS, 4, "$0/$1", -INFINITE, INFINITE);
        fails(ENDLESS, 4, "$0/$0", 0f);
        fails(ENDLESS, 4, "$0/$0", FLOAT_INFINITE);
        comes(1.0, "$0/$0", -Double.MAX_VALUE);
        comes(1.0, "$0/$0", Double.MAX_VALUE);
        comes(1f / 3f, "$0/3", 1f);
        comes(1.0 / 3.0, "$0/3", 1.0);
    }

    private void remainders() {
        fails(ZERO, 3, "$0%0", 7);
        fails(ZERO, 4, "$0%0", 7L);
        comes(0, "$0%-1", MIN);
        comes(0L, "$0%-1", LOST);
        comes(-1, "$0%2", -7);
        comes(1, "$0%-2", 7);
        fails(ENDLESS, 4, "$0%0", 7.0);
        fails(ENDLESS, 4, "$0%$1", 7.0, -0.0);
        fails(ENDLESS, 4, "$0%1", INFINITE);
        fails(ENDLESS, 4, "$0%1", -INFINITE);
        fails(ENDLESS, 4, "$0%$0", INFINITE);
        fails(ENDLESS, 4, "$0%0", 7f);
        fails(ENDLESS, 4, "$0%1", FLOAT_INFINITE);
        comes(7.0, "$0%$1", 7.0, INFINITE);
        comes(7f, "$0%$1", 7f, -FLOAT_INFINITE);
        comes(-1.0, "$0%2", -7.0);
        comes(0.0, "$0%$0", 7.0);
        comes(-0.0, "$0%$0", -7.0);
        comes(0f, "$0%$1", 7f, -7f);
        comes(0.0, "$0%$0", Double.MAX_VALUE);
        comes(-0.0, "$0%$0", -Double.MAX_VALUE);
        comes(0.0, "$0%$0", Double.MIN_VALUE);
        comes(1.0, "$0%-2", 7.0);
        comes(-0.0, "$0%2", -4.0);
        comes(-0.0, "$0%2", -0.0);
        comes(Double.MAX_VALUE % 3.0, "$0%3", Double.MAX_VALUE);
        comes(Double.MAX_VALUE % Double.MIN_VALUE, "$0%$1", Double.MAX_VALUE, Double.MIN_VALUE);
        comes(1e300 % 7e-300, "$0%$1", 1e300, 7e-300);
        comes(Float.MAX_VALUE % 3f, "$0%3", Float.MAX_VALUE);
        comes(0.3f % 0.1f, "$0%$1", 0.3f, 0.1f);
        comes(Double.MIN_VALUE, "$0%$1", Double.MIN_VALUE, Double.MAX_VALUE);
    }

    private void mixes() {
        comes(MIN, "$0&$1", MIN, -1);
        comes(-1, "$0|$1", MIN, MAX);
        comes(-1, "$0^$1", MIN, MAX);
        comes(LOST, "$0&$1", LOST, -1L);
        comes(-1L, "$0|$1", LOST, Long.MAX_VALUE);
        comes((long) MIN, "$0&$1", MIN, -1L);
        truth("yes&no", "1:1 1:0 601");
        truth("yes|no", "1:1 1:0 701");
        truth("yes^no", "1:1 1:0 801");
        boolean[] both = {false, true};
        for (boolean a : both) {
            for (boolean b : both) {
                holds(a & b, "$0&$1", a, b);
                holds(a | b, "$0|$1", a, b);
                holds(a ^ b, "$0^$1", a, b);
            }
        }
        // Both sides of a SIGN are done, of and and or the second one at need.
        Probe x = one(5);
        due("the second side fails", x.ran("find no & ($0[1]=0)"), -10);
        due("it is not reached", x.ran("find no and $0[1]=0"), 0);
    }

    private void shifts() {
        int[] by = {0, 1, 31, 32, 33, 63, 64, 65, -1, -32, -33, MIN, MAX};
        for (int n : by) {
            for (int v : new int[] {1, -1, MIN, MAX}) {
                comes(v << n, "$0<<$1", v, n);
                comes(v >> n, "$0>>$1", v, n);
                comes(v >>> n, "$0>>>$1", v, n);
                comes((long) v << n, "$0<<$1", (long) v, n);
                comes((long) v >> n, "$0>>$1", (long) v, n);
                comes((long) v >>> n, "$0>>>$1", (long) v, n);
            }
        }
        comes(LOST, "$0<<63", 1L);
        comes(1L, "$0>>>63", LOST);
        comes(-1L, "$0>>63", LOST);
        comes(2, "$0<<$1", 1, 4294967297L);
        comes(1, "$0<<$1", 1, LOST);
        comes(2L, "$0<<$1", 1L, 4294967297L);
        sum("$5<<1", "3 15:5 1:1 902");
        sum("$5>>1", "3 15:5 1:1 1002");
        sum("1>>>2", "1:1 1:2 1101");
    }

    private void negations() {
        comes(MIN, "-$0", MIN);
        comes(LOST, "-$0", LOST);
        comes(0, "-$0", 0);
        comes(-MAX, "-$0", MAX);
        comes(-0.0, "-$0", 0.0);
        comes(0.0, "-$0", -0.0);
        comes(-0f, "-$0", 0f);
        comes(-INFINITE, "-$0", INFINITE);
        comes(-Double.MIN_VALUE, "-$0", Double.MIN_VALUE);
        sum("-1", "1:1 1201");
        sum("-$5", "3 15:5 1202");
        sum("-$6", "3 16:6 1203");
        sum("-$7", "3 17:7 1204");
    }

    private void turned() {
        comes(-1, "~$0", 0);
        comes(MIN, "~$0", MAX);
        comes(MAX, "~$0", MIN);
        comes(LOST, "~$0", Long.MAX_VALUE);
        comes(-1L, "~$0", 0L);
        sum("~1", "1:1 1301");
        sum("~$5", "3 15:5 1302");
    }

    /** All six, of two that are less, as much or more. */
    private void compared(int compared, Object a, Object b) {
        String[] signs = {"=", "!=", "<", ">", "<=", ">="};
        boolean[] hold = {compared == 0, compared != 0, compared < 0, compared > 0, compared <= 0, compared >= 0};
        for (int r = 0; r < 6; r++) {
            holds(hold[r], "$0" + signs[r] + "$1", a, b);
        }
    }

    private void comparisons() {
        compared(-1, MIN, MAX);
        compared(1, MAX, MIN);
        compared(0, MIN, MIN);
        compared(-1, LOST, Long.MAX_VALUE);
        compared(1, Long.MAX_VALUE, LOST);
        compared(-1, 4294967296L, 4294967297L);
        compared(0, LOST, LOST);
        compared(0, 0.0, -0.0);
        compared(0, -0f, 0f);
        compared(-1, -INFINITE, INFINITE);
        compared(0, INFINITE, INFINITE);
        compared(1, INFINITE, Double.MAX_VALUE);
        compared(-1, 0.0, Double.MIN_VALUE);
        compared(-1, -Float.MIN_VALUE, 0f);
        compared(0, MIN, (long) MIN);
        compared(0, 16777217, 16777216f);
        compared(1, 16777217, 16777216.0);
        compared(0, 9007199254740993L, 9007199254740992.0);
        holds(true, "$0=$1", false, false);
        holds(false, "$0=$1", false, true);
        holds(true, "$0!=$1", true, false);
        holds(false, "$0!=$1", true, true);
        String[] signs = {"=", "!=", "<", ">", "<=", ">="};
        for (int r = 0; r < 6; r++) {
            truth("1" + signs[r] + "2", "1:1 1:2 1401 150" + r);
            truth("$5" + signs[r] + "$5", "3 15:5 3 15:5 1402 150" + r);
            truth("$6" + signs[r] + "$6", "3 16:6 3 16:6 1403 150" + r);
            truth("$7" + signs[r] + "$7", "3 17:7 3 17:7 1404 150" + r);
        }
        truth("yes=no", "1:1 1:0 1401 1500");
    }

    private void conversions() {
        String[] casts = {"int", "long", "float", "double"};
        for (int i = 1; i <= 4; i++) {
            for (int k = 1; k <= 4; k++) {
                sum(casts[k - 1] + "($" + (i + 3) + ")", "3 1" + (i + 3) + ":" + (i + 3) + (i == k ? "" : " 16" + i + k));
            }
        }
        double[] doubles = {0.99, -0.99, 2147483646.5, 2147483647.0, 2147483648.0, -2147483648.0, -2147483649.0, 1e10, -1e10,
            9.223372036854775e18, 9.223372036854775807e18, 1e19, -1e19, -9.223372036854775808e18, 1e300, INFINITE, -INFINITE,
            -0.0, Double.MIN_VALUE, 3.4028235e38, 3.4028235677973366e38, 3.5e38, 1e-46, 1e-45, 0.1, 16777217.0};
        for (double d : doubles) {
            comes((int) d, "int($0)", d);
            comes((long) d, "long($0)", d);
            comes((float) d, "float($0)", d);
            float f = (float) d;
            comes((int) f, "int($0)", f);
            comes((long) f, "long($0)", f);
            comes((double) f, "double($0)", f);
        }
        long[] longs = {0, MIN, MAX, 2147483648L, -2147483649L, 4294967296L, Long.MAX_VALUE, LOST, 16777217, 9007199254740993L};
        for (long v : longs) {
            comes((int) v, "int($0)", v);
            comes((float) v, "float($0)", v);
            comes((double) v, "double($0)", v);
            comes((long) (int) v, "long($0)", (int) v);
            comes((float) (int) v, "float($0)", (int) v);
            comes((double) (int) v, "double($0)", (int) v);
        }
    }

    private void narrowed() {
        int[] ints = {0, 127, 128, -128, -129, 255, 256, 32767, 32768, -32768, -32769, 65535, 65536, -1, MIN, MAX};
        for (int v : ints) {
            comes((int) (byte) v, "byte($0)", v);
            comes((int) (short) v, "short($0)", v);
            comes((int) (char) v, "char($0)", v);
        }
        comes(-1, "byte($0)", 1e10);
        comes(-1, "short($0)", 1e10);
        comes(65535, "char($0)", 1e10);
        comes(0, "byte($0)", -INFINITE);
        comes(5, "byte($0)", 4294967301L);
        comes(65535, "char($0)", -1L);
        comes(65535, "char($0)", -1.5);
    }

    private void noNumbers() {
        fails(ENDLESS, 4, "$0-$0", INFINITE);
        fails(ENDLESS, 4, "$0-$0", -INFINITE);
        fails(ENDLESS, 4, "$0+$1", INFINITE, -INFINITE);
        fails(ENDLESS, 4, "$0+$1", -INFINITE, INFINITE);
        fails(ENDLESS, 4, "$0*$1", 0.0, INFINITE);
        fails(ENDLESS, 4, "$0*$1", -INFINITE, 0.0);
        fails(ENDLESS, 4, "$0*$1", -0.0, INFINITE);
        fails(ENDLESS, 4, "$0-$0", FLOAT_INFINITE);
        fails(ENDLESS, 4, "$0+$1", FLOAT_INFINITE, -FLOAT_INFINITE);
        fails(ENDLESS, 4, "$0*$1", 0f, FLOAT_INFINITE);
        fails(ENDLESS, 7, "$0+$0-$0", INFINITE);
        comes(INFINITE, "$0+$0", INFINITE);
        comes(INFINITE, "$0-$1", INFINITE, -INFINITE);
        comes(-INFINITE, "$0*-1", INFINITE);
        comes(INFINITE, "$0*$0", -INFINITE);
        comes(INFINITE, "$0-1", INFINITE);
        comes(FLOAT_INFINITE, "$0+$0", FLOAT_INFINITE);
    }

    private void magnitudes() {
        comes(MIN, "abs($0)", MIN);
        comes(MAX, "abs($0)", -MAX);
        comes(LOST, "abs($0)", LOST);
        comes(1L, "abs($0)", -1L);
        comes(0.0, "abs($0)", -0.0);
        comes(0f, "abs($0)", -0f);
        comes(INFINITE, "abs($0)", -INFINITE);
        comes(Float.MIN_VALUE, "abs($0)", -Float.MIN_VALUE);
        sum("abs(1)", "1:1 1701");
        sum("abs($5)", "3 15:5 1702");
        sum("abs($6)", "3 16:6 1703");
        sum("abs($7)", "3 17:7 1704");
    }

    private void rounded() {
        double[] some = {0.0, -0.0, 0.5, -0.5, 0.49999999999999994, 1.5, 2.5, -1.5, -2.5, 0.1, -0.1, 1.0, -1.0, Double.MIN_VALUE,
            -Double.MIN_VALUE, 4503599627370495.5, 4503599627370494.5, -4503599627370495.5, 4503599627370497.0, 9.1e15, 1e300,
            Double.MAX_VALUE, INFINITE, -INFINITE, 2147483647.5, -2147483648.5};
        for (double d : some) {
            comes(Math.floor(d), "floor($0)", d);
            comes(Math.ceil(d), "ceil($0)", d);
            comes(Math.rint(d), "rint($0)", d);
        }
        comes(-2.0, "floor($0)", -1.5f);
        comes((double) MIN, "floor($0)", MIN);
        comes((double) LOST, "ceil($0)", LOST);
        sum("floor(1.5)", "2:0 1714");
        sum("ceil(1.5)", "2:0 1724");
        sum("rint(1.5)", "2:0 1734");
    }

    private void signs() {
        comes(1.0, "sign($0)", Double.MIN_VALUE);
        comes(-1.0, "sign($0)", -Double.MIN_VALUE);
        comes(0.0, "sign($0)", 0.0);
        comes(-0.0, "sign($0)", -0.0);
        comes(1.0, "sign($0)", INFINITE);
        comes(-1.0, "sign($0)", -INFINITE);
        comes(1f, "sign($0)", Float.MAX_VALUE);
        comes(-1f, "sign($0)", -Float.MIN_VALUE);
        comes(-0f, "sign($0)", -0f);
        comes(-1.0, "sign($0)", MIN);
        comes(0.0, "sign($0)", 0L);
        sum("sign($6)", "3 16:6 1743");
        sum("sign($7)", "3 17:7 1744");
    }

    private void leastAndMost() {
        Object[][] pairs = {{MIN, MAX}, {LOST, Long.MAX_VALUE}, {-1, 0}, {-Float.MAX_VALUE, Float.MIN_VALUE},
            {-INFINITE, INFINITE}, {Double.MAX_VALUE, INFINITE}, {0.0, Double.MIN_VALUE}, {4294967296L, 4294967297L}};
        for (Object[] pair : pairs) {
            comes(pair[0], "min($0,$1)", pair[0], pair[1]);
            comes(pair[0], "min($0,$1)", pair[1], pair[0]);
            comes(pair[1], "max($0,$1)", pair[0], pair[1]);
            comes(pair[1], "max($0,$1)", pair[1], pair[0]);
            comes(pair[0], "max($0,$0)", pair[0]);
        }
        sum("min(1,2)", "1:1 1:2 1751");
        sum("min($5,$5)", "3 15:5 3 15:5 1752");
        sum("max($6,$6)", "3 16:6 3 16:6 1763");
        sum("max($7,$7)", "3 17:7 3 17:7 1764");
    }

    private void zeros() {
        comes(-0.0, "min($0,$1)", 0.0, -0.0);
        comes(-0.0, "min($0,$1)", -0.0, 0.0);
        comes(0.0, "max($0,$1)", 0.0, -0.0);
        comes(0.0, "max($0,$1)", -0.0, 0.0);
        comes(-0f, "min($0,$1)", 0f, -0f);
        comes(0f, "max($0,$1)", -0f, 0f);
        comes(-0.0, "max($0,$0)", -0.0);
        comes(0.0, "min($0,$0)", 0.0);
    }

    private void jumps() {
        boolean[] both = {false, true};
        for (boolean a : both) {
            holds(!a, "not $0", a);
            holds(a, "not not $0", a);
            holds(true, "(not $0)=$1", a, !a);
            holds(true, "(not $0)!=$1", a, a);
            holds(!a, "(not $0)&yes", a);
            holds(true, "($0 or no)=$0 and ($0 and yes)=$0", a);
            for (boolean b : both) {
                holds(a && b, "$0 and $1", a, b);
                holds(a || b, "$0 or $1", a, b);
                holds(a || !b && a, "$0 or not $1 and $0", a, b);
                holds(a ? b : !b, "($0 ? $1 : not $1)", a, b);
                comes(a ? 1 : b ? 2 : 3, "$0 ? 1 : $1 ? 2 : 3", a, b);
                comes(a ? b ? 1 : 2 : 3, "$0 ? $1 ? 1 : 2 : 3", a, b);
            }
        }
        truth("not yes", "1:1 1810");
        Probe x = one(true);
        x.ran("find $0 or no");
        due("ACTS done: 3, 10, 1801, 1", x.told(3), 4);
        x.ran("find $0 and no");
        due("ACTS done: 3, 10, 1800, 1, 1802", x.told(3), 5);
        x.ran("fold max $0 ? 1 : 2");
        due("ACTS done: 3, 10, 1800, 1, 1802", x.told(3), 5);
        x.put(0, 0, 0);
        x.run(0);
        due("ACTS done: 3, 10, 1800, 1", x.told(3), 4);
    }

    private void ands() {
        truth("yes and no", "1:1 1800:4 1:0 1802:5 1:0");
        truth("yes and no and yes", "1:1 1800:4 1:0 1802:5 1:0 1800:8 1:1 1802:9 1:0");
        truth("yes and (no and yes)", "1:1 1800:8 1:0 1800:6 1:1 1802:7 1:0 1802:9 1:0");
        truth("1<2 and 3>4", "1:1 1:2 1401 1502 1800:10 1:3 1:4 1401 1503 1802:11 1:0");
    }

    private void ors() {
        truth("yes or no", "1:1 1801:4 1:0 1802:5 1:1");
        truth("yes or no or yes", "1:1 1801:4 1:0 1802:5 1:1 1801:8 1:1 1802:9 1:1");
        truth("yes or (no or yes)", "1:1 1801:8 1:0 1801:6 1:1 1802:7 1:1 1802:9 1:1");
        truth("yes and no or no and yes",
            "1:1 1800:4 1:0 1802:5 1:0 1801:12 1:0 1800:10 1:1 1802:11 1:0 1802:13 1:1");
    }

    private void choices() {
        sum("yes?1:2", "1:1 1800:4 1:1 1802:5 1:2");
        sum("yes?1:no?2:3", "1:1 1800:4 1:1 1802:9 1:0 1800:8 1:2 1802:9 1:3");
        sum("yes?no?1:2:3", "1:1 1800:8 1:0 1800:6 1:1 1802:7 1:2 1802:9 1:3");
        sum("yes?1:2.5", "1:1 1800:5 1:1 1614 1802:6 2:0");
        sum("yes?1:no?2:2.5", "1:1 1800:5 1:1 1614 1802:11 1:0 1800:10 1:2 1614 1802:11 2:0");
        sum("yes?(no?1:2):2.5", "1:1 1800:9 1:0 1800:6 1:1 1802:7 1:2 1614 1802:10 2:0");
        sum("yes or no?1:2", "1:1 1801:4 1:0 1802:5 1:1 1800:8 1:1 1802:9 1:2");
    }

    private void jumpsToTheEnd() {
        Probe x = lanes();
        String[] texts = {"find yes and no", "find yes or no", "find (yes?no:yes)"};
        for (int q = 0; q < texts.length; q++) {
            x.query(texts[q]);
            due("ACTS of '" + texts[q] + "'", x.acts(q, 0), 5);
            due("the jump's goal", x.act(q, 0, 3, 1), 5);
            x.objects(2);
            due("its RUN", x.run(q), q == 1 ? 2 : 0);
        }
        // What stands behind is where the jump goes: the conversion of the whole.
        sum("(yes?1:2)+1.5", "1:1 1800:4 1:1 1802:5 1:2 1614 2:0 104");
        comes(2.5, "($0?1:2)+1.5", true);
        comes(3.5, "($0?1:2)+1.5", false);
        comes(1.5, "$0?1:1.5", false);
        comes(1.0, "$0?1:1.5", true);
        code("find yes order yes?1:2", "1:1", "1:1 1800:4 1:1 1802:5 1:2 1614");
        code("set $1 := yes?1:2", "", "3 1:1 1800:5 1:1 1802:6 1:2 1651 21:1");
    }

    private void negativeNumbers() {
        sum("-5", "1:5 1201");
        sum("--5", "1:5 1201 1201");
        sum("1-5", "1:1 1:5 201");
        sum("1--5", "1:1 1:5 1201 201");
        sum("-1.5", "2:0 1204");
        comes(MIN, "-2147483647-1");
        faulty("fold max -2147483648", 1, 10);
    }

    private void asJavaHasIt() {
        comes(-7 / 2 * 2 + -7 % 2, "$0/2*2+$0%2", -7);
        comes(1 - 2 - 3, "1-2-3");
        comes(100 / 10 / 5, "100/10/5");
        comes(2 + 3 * 4 - 5, "2+3*4-5");
        comes(1 << 2 + 1, "1<<2+1");
        comes(6 & 3 | 8 ^ 1, "6&3|(8^1)");
        comes((6 & 3 | 8) ^ 1, "6&3|8^1");
        comes((float) 16777217 + 1f, "$0+$1", 16777217, 1f);
        comes((double) 1 / 3, "1/3.0");
        comes(1 / 3 + 0.5, "1/3+0.5");
        comes(MAX + 1 + 0L, "$0+1+$1", MAX, 0L);
        comes(MAX + (1 + 0L), "$0+(1+$1)", MAX, 0L);
    }

    private void longsToShiftBy() {
        sum("1<<$5", "1:1 3 15:5 1621 901");
        sum("1>>$5", "1:1 3 15:5 1621 1001");
        sum("1>>>$5", "1:1 3 15:5 1621 1101");
        sum("$5<<$5", "3 15:5 3 15:5 1621 902");
        sum("1<<2", "1:1 1:2 901");
    }

    private void nothing() {
        sum("1+2", "1:1 1:2 101");
        sum("int(1)", "1:1");
        sum("long($5)", "3 15:5");
        sum("float($6)", "3 16:6");
        sum("double(1.5)", "2:0");
        sum("int(byte(1))", "1:1 1651");
        sum("floor(1.5)", "2:0 1714");
        sum("sign($6)", "3 16:6 1743");
        code("find yes order 1.5", "1:1", "2:0");
        code("fold sum $5", "", "3 15:5");
        code("fold sum 1.5", "", "2:0");
        code("fold mean 1.5", "", "2:0");
        code("fold count by row", "", "", "3");
        code("fold count by $5", "", "", "3 15:5");
        code("set $4 := 1", "", "3 1:1 24:4");
        code("set $0 := yes", "", "3 1:1 20:0");
        sum("yes?1:2", "1:1 1800:4 1:1 1802:5 1:2");
    }

    private void promise13() {
        states().forEach((name, state) -> {
            Probe x = state.get();
            int there = QUERIES_OF.get(name);
            for (int q : outside(0, there - 1)) {
                for (int part = 0; part <= 2; part++) {
                    due(name + ": acts(" + q + ", " + part + ")", x.acts(q, part), BAD);
                }
            }
            for (int q = 0; q < 12; q++) {
                for (int part : outside(0, 2)) {
                    due(name + ": acts(" + q + ", " + part + ")", x.acts(q, part), BAD);
                }
                due(name + ": PART 0 of " + q, x.acts(q, 0), q >= there ? BAD : name.equals("full") ? 4 : q == 0 ? 5 : 0);
                due(name + ": PART 2 of " + q, x.acts(q, 2), q >= there ? BAD : 0);
            }
        });
        Probe x = lanes();
        x.query("find $8");
        due("behind a FAULT", x.acts(0, 0), BAD);
        x.query("fold max -" + "1+".repeat(99) + "1 where yes by row");
        due("PART 0", x.acts(0, 0), 1);
        due("PART 1", x.acts(0, 1), 200);
        due("PART 2", x.acts(0, 2), 1);
        x.query("fold count");
        for (int part = 0; part <= 2; part++) {
            due("a PART without ACTS", x.acts(1, part), 0);
        }
    }

    private void promise14() {
        Probe x = lanes();
        x.query("fold max -" + "1+".repeat(98) + "$4[7] where yes and no by row+3");
        int[][] acts = {{0, 0, 1, 1}, {0, 1, 1800, 4}, {0, 3, 1802, 5}, {0, 4, 1, 0}, {1, 0, 1, 1}, {1, 1, 1201, 0}, {1, 2, 1, 1},
            {1, 3, 101, 0}, {1, 196, 1, 7}, {1, 197, 14, 4}, {1, 198, 101, 0}, {2, 0, 3, 0}, {2, 1, 1, 3}, {2, 2, 101, 0}};
        for (int[] a : acts) {
            due("op of " + a[0] + ", " + a[1], x.act(0, a[0], a[1], 0), a[2]);
            due("a of " + a[0] + ", " + a[1], x.act(0, a[0], a[1], 1), a[3]);
        }
        x = full();
        due("of query 11", x.act(11, 0, 1, 1), 16);
        due("of query 0", x.act(0, 0, 1, 1), 5);
        x = failed();
        due("behind a failed RUN", x.act(1, 1, 4, 0), 401);
    }

    private void noSuchAct() {
        states().forEach((name, state) -> {
            Probe x = state.get();
            int there = QUERIES_OF.get(name);
            for (int q : outside(0, there - 1)) {
                due(name + ": act(" + q + ", 0, 0, 0)", x.act(q, 0, 0, 0), BAD2);
            }
            for (int q = 0; q < 12; q += 11) {
                for (int part : outside(0, 2)) {
                    due(name + ": act(" + q + ", " + part + ", 0, 0)", x.act(q, part, 0, 0), BAD2);
                }
                for (int part = 0; part <= 2; part++) {
                    for (int i : outside(0, Math.max(x.acts(q, part), 0) - 1)) {
                        due(name + ": act(" + q + ", " + part + ", " + i + ", 0)", x.act(q, part, i, 0), BAD2);
                        due(name + ": act(" + q + ", " + part + ", " + i + ", 1)", x.act(q, part, i, 1), BAD2);
                    }
                }
                for (int what : outside(0, 1)) {
                    due(name + ": act(" + q + ", 0, 0, " + what + ")", x.act(q, 0, 0, what), BAD2);
                }
            }
        });
        Probe x = lanes();
        x.query("fold max -" + "1+".repeat(99) + "1");
        due("ACT 199", x.act(0, 1, 199, 0), 101);
        due("ACT 200", x.act(0, 1, 200, 0), BAD2);
        due("of a PART without ACTS", x.act(0, 0, 0, 0), BAD2);
    }
}
