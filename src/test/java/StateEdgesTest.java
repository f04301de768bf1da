import java.util.Map;
import java.util.function.Supplier;
import java.util.function.ToLongFunction;

/** Boundaries of what an object holds: the Terms' first row, ==== 1, promises 1 to 8 and 20. */
public final class StateEdgesTest extends Edges {
    private static final int[] COLUMNS_OUT = outside(0, 9);
    private static final int[] CELLS_OUT = outside(0, 16);
    private static final Map<String, Integer> OBJECTS_OF = Map.of("new", 0, "full", 16, "failed", 3, "cleared", 16);

    public static void main(String[] args) {
        new StateEdgesTest().close();
    }

    @Override
    void sentences() {
        test("public static final int NONE = -1, BAD = -1, FULL = -2, NO = -3;", this::constants);
        test("public static final long LOST = Long.MIN_VALUE;", this::lost);
        test("Answers below 0: BAD (-1: a number is not as told, there is no such thing), FULL (-2), NO (-3, as told)",
            this::answersBelow0);
        test("the first of these.", this::firstOfThese);
        test("They change nothing.", this::refusedCallsChangeNothing);

        test("An object is used for at most 512 calls after it has been made", this::used512Times);

        test("OBJECTS are 0 .. N - 1", this::objectsBelowN);
        test("(N is 0 to 16, 0 at first)", this::from0To16);
        test("COLUMNS 0 .. 9", this::tenColumns);
        test("are MISSING (at first)", this::missingAtFirst);
        test("a row of a LANE with 0 to 16 CELLS", this::from0To16Cells);
        test("CELLS (0 at first)", this::cells0AtFirst);
        test("LANES 0 truths, 1 bytes, 2 shorts, 3 chars, 4 ints, 5 longs, 6 floats, 7 doubles.", this::lanesHold);
        test("One row may be several COLUMNS (it is the same one then).", this::severalColumns);
        test("BITS of a CELL: of a float its 32 (as an int), of a double its 64, else the number (1, 0).", this::bitsOfCells);

        test("`QueryClasses()`: N is 0, all COLUMNS are MISSING, no queries.", this::promise1);
        test("`int objects(int n)`: N becomes n: what it was. BAD.", this::promise2);
        test("`int column(int c, int lane, int n)`: A COLUMN becomes a new row: 1. BAD.", this::promise3);
        test("a new row: 1.", this::newRows);
        test("`int share(int c, int d)`: COLUMN c becomes COLUMN d (the same one; MISSING, if that is): 1. BAD.", this::promise4);
        test("MISSING, if that is", this::sharedWithMissing);
        test("`int drop(int c)`: A COLUMN is MISSING: whether it was there (1, 0). BAD.", this::promise5);
        test("`int put(int c, int i, long v)`: CELL i becomes BITS v", this::promise6);
        test("lowest bits; truths: not 0", this::lowestBits);
        test("of floats, doubles no number: BAD", this::noNumbers);
        test("BAD; NO: MISSING.", this::putOnMissing);
        test("`long cell(int c, int i)`: BITS of CELL i. LOST: there is none such.", this::promise7);
        test("`int about(int c, int what)`: Of a COLUMN: 0 its LANE, 1 how many CELLS", this::promise8);
        test("(NONE both: MISSING)", this::aboutMissing);
        test("2 the least COLUMN that is the same one (or MISSING, too).", this::leastColumn);
        test("(or MISSING, too). BAD is -2 here.", this::aboutNoSuch);
        test("`int count(int what)`: How many: 0 OBJECTS, 1 COLUMNS that are not MISSING, 2 queries, 3 bytes on THE TAPE. BAD.",
            this::promise20);
    }

    private void constants() {
        due("NONE", QueryClasses.NONE, -1);
        due("BAD", QueryClasses.BAD, -1);
        due("FULL", QueryClasses.FULL, -2);
        due("NO", QueryClasses.NO, -3);
    }

    private void lost() {
        due("LOST", QueryClasses.LOST, -9223372036854775807L - 1);
        due("a cell that is not there", new Probe().cell(0, 0), -9223372036854775807L - 1);
    }

    private void answersBelow0() {
        Probe x = full();
        due("a number that is not as told", x.objects(17), -1);
        due("no such COLUMN", x.drop(10), -1);
        due("no such CELL", x.put(0, 16, 1), -1);
        due("no such query", x.run(12), -1);
        due("feed when 400 bytes are there", x.feed(0, 0, 0, 0, 0), -2);
        due("query when twelve are there", x.query(), -2);
        x.drop(0);
        due("put on a MISSING one", x.put(0, 0, 1), -3);
    }

    /** BAD comes ahead of NO where both would be right; a text's FAULT is not looked at when it is FULL. */
    private void firstOfThese() {
        Probe x = new Probe();
        for (int c : COLUMNS_OUT) {
            due("put on " + c + ", which is no COLUMN", x.put(c, 0, 1), BAD);
        }
        due("put on 0, which is MISSING", x.put(0, 0, 1), NO);
        x = full();
        x.end(1);
        due("query, FULL, with a text that has a FAULT", x.query(), FULL);
    }

    private void refusedCallsChangeNothing() {
        for (Map.Entry<String, Supplier<Probe>> state : states().entrySet()) {
            Refusals r = new Refusals(state.getKey(), state.getValue());
            r.ofColumns();
            r.ofQueries();
            r.ofRuns();
            r.ofState();
        }
    }

    /** Refused calls on a state; behind each the object tells all that it tells without it. */
    private final class Refusals {
        private final String name;
        private final Supplier<Probe> state;
        private final String before;

        Refusals(String name, Supplier<Probe> state) {
            this.name = name;
            this.state = state;
            before = view(state.get());
        }

        private void refused(String call, long want, ToLongFunction<Probe> f) {
            Probe x = state.get();
            due(name + ": " + call, f.applyAsLong(x), want);
            dueText(name + ": all behind " + call, view(x), before);
        }

        void ofColumns() {
            for (int n : CELLS_OUT) {
                refused("objects(" + n + ")", BAD, x -> x.objects(n));
                refused("column(0, 4, " + n + ")", BAD, x -> x.column(0, 4, n));
            }
            for (int c : COLUMNS_OUT) {
                refused("column(" + c + ", 4, 3)", BAD, x -> x.column(c, 4, 3));
                refused("share(" + c + ", 0)", BAD, x -> x.share(c, 0));
                refused("share(0, " + c + ")", BAD, x -> x.share(0, c));
                refused("drop(" + c + ")", BAD, x -> x.drop(c));
                refused("put(" + c + ", 0, 1)", BAD, x -> x.put(c, 0, 1));
                refused("cell(" + c + ", 0)", LOST, x -> x.cell(c, 0));
                refused("about(" + c + ", 0)", BAD2, x -> x.about(c, 0));
            }
            for (int lane : outside(0, 7)) {
                refused("column(0, " + lane + ", 3)", BAD, x -> x.column(0, lane, 3));
            }
            for (int i : CELLS_OUT) {
                refused("cell(0, " + i + ")", LOST, x -> x.cell(0, i));
            }
            for (int what : outside(0, 2)) {
                refused("about(0, " + what + ")", BAD2, x -> x.about(0, what));
            }
        }

        void ofQueries() {
            for (int n : outside(0, 400)) {
                refused("end(" + n + ")", BAD, x -> x.end(n));
            }
            for (int q : outside(0, 11)) {
                refused("acts(" + q + ", 0)", BAD, x -> x.acts(q, 0));
                refused("act(" + q + ", 0, 0, 0)", BAD2, x -> x.act(q, 0, 0, 0));
                refused("run(" + q + ")", BAD, x -> x.run(q));
            }
            for (int part : outside(0, 2)) {
                refused("acts(0, " + part + ")", BAD, x -> x.acts(0, part));
                refused("act(0, " + part + ", 0, 0)", BAD2, x -> x.act(0, part, 0, 0));
            }
            for (int i : outside(0, 199)) {
                refused("act(0, 0, " + i + ", 0)", BAD2, x -> x.act(0, 0, i, 0));
            }
            for (int what : outside(0, 1)) {
                refused("act(0, 0, 0, " + what + ")", BAD2, x -> x.act(0, 0, 0, what));
            }
        }

        void ofRuns() {
            for (int what : outside(0, 5)) {
                refused("told(" + what + ")", BAD2, x -> x.told(what));
            }
            for (int k : outside(0, 15)) {
                refused("hit(" + k + ")", BAD, x -> x.hit(k));
                refused("score(" + k + ")", LOST, x -> x.score(k));
                refused("value(" + k + ")", LOST, x -> x.value(k));
            }
            for (int what : outside(0, 3)) {
                refused("count(" + what + ")", BAD, x -> x.count(what));
            }
        }

        /** What this state alone refuses. */
        void ofState() {
            boolean filled = name.equals("full") || name.equals("cleared");
            if (filled) {
                refused("feed", FULL, x -> x.feed(1, 2, 3, 4, 5));
                refused("put(6, 0, no number)", BAD, x -> x.put(6, 0, 0x7FC00000));
                refused("put(7, 0, no number)", BAD, x -> x.put(7, 0, 0x7FF8000000000000L));
                refused("put(0, 16, 1)", BAD, x -> x.put(0, 16, 1));
                refused("put(0, -1, 1)", BAD, x -> x.put(0, -1, 1));
            } else {
                refused("put(9, 0, 1)", NO, x -> x.put(9, 0, 1));
                refused("put(9, 16, 1)", NO, x -> x.put(9, 16, 1));
            }
            if (name.equals("full")) {
                refused("query", FULL, Probe::query);
            } else {
                refused("run(2)", BAD, x -> x.run(2));
            }
            if (name.equals("failed")) {
                refused("hit(0)", BAD, x -> x.hit(0));
                refused("end(9)", BAD, x -> x.end(9));
                refused("act(0, 0, 5, 0)", BAD2, x -> x.act(0, 0, 5, 0));
                refused("put(0, 3, 1)", BAD, x -> x.put(0, 3, 1));
            }
        }
    }

    /** The last of 512 calls answers as the first does, of those that make most. */
    private void used512Times() {
        Probe x = new Probe();
        x.objects(16);
        // Each round is of 16 calls.
        while (x.calls() + 16 < Probe.MOST_CALLS) {
            due("query", x.query("fold max -" + "1+".repeat(99) + "1"), 0);
            due("its RUN", x.run(0), 1);
            due("its VALUE", x.value(0), 98);
            due("clear", x.clear(), 1);
        }
        while (x.calls() + 1 < Probe.MOST_CALLS) {
            due("column", x.column(9, 7, 16), 1);
        }
        due("call 512", x.objects(3), 16);
    }

    private void objectsBelowN() {
        for (int n = 0; n <= 16; n++) {
            Probe x = new Probe();
            x.objects(n);
            due("all of " + n, x.ran("find row>=0"), n);
            for (int k = 0; k < n; k++) {
                due("OBJECT " + k + " of " + n, x.hit(k), k);
            }
            due("no OBJECT " + n, x.ran("find row>=" + n), 0);
            due("none below 0", x.ran("find row<0"), 0);
        }
    }

    private void from0To16() {
        Probe x = new Probe();
        due("N at first", x.count(0), 0);
        due("OBJECTS at first", x.ran("find yes"), 0);
        for (int n : CELLS_OUT) {
            due("objects(" + n + ")", x.objects(n), BAD);
        }
        due("objects(0)", x.objects(0), 0);
        due("objects(16)", x.objects(16), 0);
        due("objects(17)", x.objects(17), BAD);
        due("still 16", x.count(0), 16);
        due("objects(-1)", x.objects(-1), BAD);
        due("objects(0) again", x.objects(0), 16);
    }

    private void tenColumns() {
        Probe x = new Probe();
        for (int c : COLUMNS_OUT) {
            due("column " + c, x.column(c, 4, 1), BAD);
            due("share " + c, x.share(c, 0), BAD);
            due("share with " + c, x.share(0, c), BAD);
            due("drop " + c, x.drop(c), BAD);
            due("put " + c, x.put(c, 0, 1), BAD);
            due("cell " + c, x.cell(c, 0), LOST);
            due("about " + c, x.about(c, 0), BAD2);
        }
        for (int c = 0; c <= 9; c++) {
            due("column " + c, x.column(c, 4, 1), 1);
            due("put " + c, x.put(c, 0, 100 + c), 1);
        }
        for (int c = 0; c <= 9; c++) {
            due("cell " + c, x.cell(c, 0), 100 + c);
            due("a text's COLUMN " + c, x.query("find $" + c + "=0"), c);
        }
    }

    private void missingAtFirst() {
        Probe x = new Probe();
        for (int c = 0; c <= 9; c++) {
            due("LANE of " + c, x.about(c, 0), NONE);
            due("CELLS of " + c, x.about(c, 1), NONE);
            due("put on " + c, x.put(c, 0, 1), NO);
            due("drop " + c, x.drop(c), 0);
            due("query of " + c, x.query("find $" + c), -15);
            due("its FAULT", x.fault(), 5);
        }
        due("how many", x.count(1), 0);
    }

    private void from0To16Cells() {
        for (int lane = 0; lane < 8; lane++) {
            Probe x = new Probe();
            for (int n : CELLS_OUT) {
                due("column of " + n, x.column(0, lane, n), BAD);
            }
            for (int n = 0; n <= 16; n++) {
                due("column of " + n, x.column(0, lane, n), 1);
                due("its CELLS", x.about(0, 1), n);
                due("CELL " + n, x.cell(0, n), LOST);
                due("CELL -1", x.cell(0, -1), LOST);
                due("put on CELL " + n, x.put(0, n, 0), BAD);
                due("put on CELL -1", x.put(0, -1, 0), BAD);
                due("the last CELL", x.cell(0, n - 1), n == 0 ? LOST : 0);
                due("put on the last CELL", x.put(0, n - 1, 0), n == 0 ? BAD : 1);
            }
            for (int n : CELLS_OUT) {
                due("column of " + n, x.column(0, lane, n), BAD);
            }
            due("CELLS still", x.about(0, 1), 16);
        }
    }

    private void cells0AtFirst() {
        for (int lane = 0; lane < 8; lane++) {
            Probe x = new Probe();
            // Behind a row of truths, and behind one of doubles, whose BITS are held.
            for (int before : new int[] {0, 5, 7}) {
                x.column(3, before, 16);
                for (int i = 0; i < 16; i++) {
                    x.put(3, i, bits(-1.5));
                }
                due("a new row", x.column(3, lane, 16), 1);
                for (int i = 0; i < 16; i++) {
                    due("LANE " + lane + ", CELL " + i, x.cell(3, i), 0);
                }
            }
        }
    }

    private void holds(Probe x, int lane, long put, long told) {
        due("put " + put + " on LANE " + lane, x.put(lane, 15, put), 1);
        due("the CELL of LANE " + lane, x.cell(lane, 15), told);
    }

    private void lanesHold() {
        Probe x = full();
        long[][] told = {{1, 1}, {127, -128}, {32767, -32768}, {65535, 0}, {MAX, MIN}, {Long.MAX_VALUE, LOST}};
        for (int lane = 0; lane < told.length; lane++) {
            holds(x, lane, told[lane][0], told[lane][0]);
            holds(x, lane, told[lane][1], told[lane][1]);
        }
        holds(x, 0, 0, 0);
        holds(x, 0, 2, 1);
        holds(x, 0, -1, 1);
        holds(x, 1, 128, -128);
        holds(x, 1, -129, 127);
        holds(x, 2, 32768, -32768);
        holds(x, 2, -32769, 32767);
        holds(x, 3, 65536, 0);
        holds(x, 3, -1, 65535);
        holds(x, 4, 1L + MAX, MIN);
        holds(x, 4, -1L + MIN, MAX);
        holds(x, 6, bits(0.1f), bits(0.1f));
        holds(x, 7, bits(0.1), bits(0.1));
        for (int lane : outside(0, 7)) {
            due("LANE " + lane, x.column(0, lane, 3), BAD);
        }
    }

    private void severalColumns() {
        Probe x = new Probe();
        x.column(0, 4, 2);
        for (int c = 1; c <= 9; c++) {
            x.share(c, c - 1);
        }
        x.put(9, 1, 77);
        for (int c = 0; c <= 9; c++) {
            due("COLUMN " + c, x.cell(c, 1), 77);
        }
        due("each counts", x.count(1), 10);
        x.column(4, 4, 2);
        due("a new row is not the others'", x.cell(4, 1), 0);
        due("the others have theirs", x.cell(5, 1), 77);
        x.drop(0);
        x.put(1, 1, 78);
        due("behind drop the rest are one row", x.cell(9, 1), 78);
        x.objects(1);
        x.ran("set $2 := 5");
        due("set sets it for all", x.cell(9, 0), 5);
    }

    private void bitsOfCells() {
        Probe x = full();
        float[] floats = {0f, -0f, 1f, -1f, Float.MIN_VALUE, -Float.MIN_VALUE, Float.MIN_NORMAL, Float.MAX_VALUE,
            -Float.MAX_VALUE, 1.1754942E-38f, (float) INFINITE, (float) -INFINITE};
        for (float f : floats) {
            holds(x, 6, bits(f), bits(f));
            holds(x, 6, bits(f) & 0xFFFFFFFFL, bits(f));
        }
        due("a float's are an int's: of -0.0", x.put(6, 0, 0x80000000L), 1);
        due("they are below 0", x.cell(6, 0), MIN);
        double[] doubles = {0.0, -0.0, 1.0, -1.0, Double.MIN_VALUE, -Double.MIN_VALUE, Double.MIN_NORMAL, Double.MAX_VALUE,
            -Double.MAX_VALUE, 2.225073858507201E-308, INFINITE, -INFINITE};
        for (double d : doubles) {
            holds(x, 7, bits(d), bits(d));
        }
        holds(x, 0, LOST, 1);
        holds(x, 0, 0, 0);
        holds(x, 5, LOST, LOST);
        allPowers();
    }

    /** Of each power of two the least number, the one behind it and the greatest, on both sides of 0. */
    private void allPowers() {
        for (long power = 0; power < 2047; power++) {
            Probe x = full();
            for (long digits : new long[] {0, 1, (1L << 52) - 1}) {
                holds(x, 7, power << 52 | digits, power << 52 | digits);
                holds(x, 7, LOST | power << 52 | digits, LOST | power << 52 | digits);
                if (power < 255) {
                    int bits = (int) (power << 23 | digits & (1 << 23) - 1);
                    holds(x, 6, bits, bits);
                    holds(x, 6, MIN | bits, MIN | bits);
                }
            }
        }
    }

    private void promise1() {
        Probe x = new Probe();
        for (int what = 0; what <= 3; what++) {
            due("count " + what, x.count(what), 0);
        }
        for (int c = 0; c <= 9; c++) {
            due("about " + c, x.about(c, 0), NONE);
        }
        due("fault", x.fault(), 0);
        int[] told = {0, NONE, NONE, 0, 0, NONE};
        for (int what = 0; what < told.length; what++) {
            due("told " + what, x.told(what), told[what]);
        }
        due("hit", x.hit(0), BAD);
        due("score", x.score(0), LOST);
        due("value", x.value(0), LOST);
        due("acts", x.acts(0, 0), BAD);
        due("act", x.act(0, 0, 0, 0), BAD2);
        due("run", x.run(0), BAD);
        due("end 0", x.end(0), 1);
        due("clear", x.clear(), 0);
        due("objects", x.objects(0), 0);
        full();
        due("another object is full, a new one is not", new Probe().count(1), 0);
    }

    private void promise2() {
        states().forEach((name, state) -> {
            Probe x = state.get();
            int was = OBJECTS_OF.get(name);
            for (int n : CELLS_OUT) {
                due(name + ": objects(" + n + ")", x.objects(n), BAD);
            }
            due(name + ": objects(16)", x.objects(16), was);
            due(name + ": objects(0)", x.objects(0), 16);
            due(name + ": objects(1)", x.objects(1), 0);
            due(name + ": objects(1) again", x.objects(1), 1);
            due(name + ": N", x.count(0), 1);
        });
    }

    private void promise3() {
        states().forEach((name, state) -> {
            Probe x = state.get();
            for (int c : COLUMNS_OUT) {
                due(name + ": column(" + c + ", 4, 3)", x.column(c, 4, 3), BAD);
            }
            for (int lane : outside(0, 7)) {
                due(name + ": column(0, " + lane + ", 3)", x.column(0, lane, 3), BAD);
            }
            for (int n : CELLS_OUT) {
                due(name + ": column(0, 4, " + n + ")", x.column(0, 4, n), BAD);
            }
            due(name + ": column(0, 0, 0)", x.column(0, 0, 0), 1);
            due(name + ": its LANE", x.about(0, 0), 0);
            due(name + ": its CELLS", x.about(0, 1), 0);
            due(name + ": column(9, 7, 16)", x.column(9, 7, 16), 1);
            due(name + ": its LANE", x.about(9, 0), 7);
            due(name + ": its CELLS", x.about(9, 1), 16);
            due(name + ": CELL 15", x.cell(9, 15), 0);
        });
    }

    /** Rows are never mixed up, however often COLUMNS get new ones, share them and drop them. */
    private void newRows() {
        Probe x = full();
        for (int round = 0; round < 8; round++) {
            for (int c = 0; c <= 9; c++) {
                due("column " + c, x.column(c, 4, 1), 1);
                due("it is new", x.cell(c, 0), 0);
                x.put(c, 0, 10 * round + c);
                x.share((c + 3) % 10, c);
            }
        }
        for (int c = 0; c <= 9; c++) {
            for (int d = 0; d <= 9; d++) {
                if (c != d) {
                    Probe y = new Probe().row(c, 4, 66);
                    y.column(d, 4, 1);
                    due("the row of " + c + " behind one of " + d, y.cell(c, 0), 66);
                    due("the row of " + d, y.cell(d, 0), 0);
                }
            }
        }
        x.column(0, 4, 1);
        x.share(1, 0);
        x.put(0, 0, 5);
        due("of two COLUMNS one becomes a new row", x.column(0, 5, 2), 1);
        due("the other one keeps its own", x.cell(1, 0), 5);
        due("and its LANE", x.about(1, 0), 4);
        due("and its CELLS", x.about(1, 1), 1);
    }

    private void promise4() {
        states().forEach((name, state) -> {
            Probe x = state.get();
            for (int c : COLUMNS_OUT) {
                due(name + ": share(" + c + ", 0)", x.share(c, 0), BAD);
                due(name + ": share(0, " + c + ")", x.share(0, c), BAD);
                due(name + ": share(" + c + ", " + c + ")", x.share(c, c), BAD);
            }
            x.row(0, 5, 8, 9);
            due(name + ": share(9, 0)", x.share(9, 0), 1);
            due(name + ": they are the same one", x.about(9, 2), 0);
            x.put(9, 1, -9);
            due(name + ": one CELL", x.cell(0, 1), -9);
            due(name + ": share(0, 0)", x.share(0, 0), 1);
            due(name + ": it is itself", x.cell(0, 1), -9);
            due(name + ": share(0, 9)", x.share(0, 9), 1);
            due(name + ": it is itself still", x.cell(0, 1), -9);
            x.row(1, 4, 3);
            due(name + ": share(9, 1)", x.share(9, 1), 1);
            due(name + ": the row behind is left", x.cell(0, 1), -9);
            due(name + ": the row now", x.cell(9, 0), 3);
        });
    }

    private void sharedWithMissing() {
        states().forEach((name, state) -> {
            Probe x = state.get();
            x.column(0, 4, 1);
            x.drop(9);
            due(name + ": share with a MISSING one", x.share(0, 9), 1);
            due(name + ": it is MISSING", x.about(0, 0), NONE);
            due(name + ": put on it", x.put(0, 0, 1), NO);
            due(name + ": drop it", x.drop(0), 0);
            due(name + ": two that are MISSING", x.share(0, 9), 1);
            x.column(9, 4, 1);
            due(name + ": a row behind that is not shared", x.about(0, 0), NONE);
        });
    }

    private void promise5() {
        states().forEach((name, state) -> {
            Probe x = state.get();
            for (int c : COLUMNS_OUT) {
                due(name + ": drop(" + c + ")", x.drop(c), BAD);
            }
            for (int c : new int[] {0, 9}) {
                x.column(c, 4, 0);
                due(name + ": drop one without CELLS", x.drop(c), 1);
                due(name + ": it is MISSING", x.about(c, 0), NONE);
                due(name + ": drop it again", x.drop(c), 0);
            }
            x.row(0, 4, 6);
            x.share(9, 0);
            due(name + ": drop one of two", x.drop(0), 1);
            due(name + ": the other one stays", x.cell(9, 0), 6);
            due(name + ": drop the other one", x.drop(9), 1);
        });
    }

    private void promise6() {
        states().forEach((name, state) -> {
            Probe x = state.get();
            for (int c : COLUMNS_OUT) {
                due(name + ": put(" + c + ", 0, 1)", x.put(c, 0, 1), BAD);
            }
            for (int lane = 0; lane < 8; lane++) {
                x.column(3, lane, 16);
                for (int i : CELLS_OUT) {
                    due(name + ": put(3, " + i + ", 1)", x.put(3, i, 1), BAD);
                }
                due(name + ": put(3, 16, 1)", x.put(3, 16, 1), BAD);
                due(name + ": put(3, 0, 1)", x.put(3, 0, 1), 1);
                due(name + ": put(3, 15, 1)", x.put(3, 15, 1), 1);
                due(name + ": CELL 0", x.cell(3, 0), 1);
                due(name + ": CELL 15", x.cell(3, 15), 1);
                due(name + ": CELL 14", x.cell(3, 14), 0);
            }
            x.column(3, 4, 0);
            due(name + ": put where there is no CELL", x.put(3, 0, 1), BAD);
        });
    }

    private void lowestBits() {
        long v = 0x123456789ABCDEF0L;
        long[] kept = {1, (byte) v, (short) v, (char) v, (int) v, v, (int) v, v};
        Probe x = full();
        for (int lane = 0; lane < 8; lane++) {
            holds(x, lane, v, kept[lane]);
        }
        holds(x, 0, 256, 1);
        holds(x, 0, 1L << 32, 1);
        holds(x, 0, LOST, 1);
        holds(x, 1, LOST, 0);
        holds(x, 4, 1L << 32, 0);
        holds(x, 6, 0x7FF8000000000000L, 0);
        holds(x, 6, 0x7FC000003F800000L, bits(1f));
    }

    private void noNumbers() {
        Probe x = full();
        holds(x, 6, bits(3f), bits(3f));
        holds(x, 7, bits(3.0), bits(3.0));
        for (int f : new int[] {0x7F800001, 0x7FC00000, MAX, 0xFF800001, 0xFFC00000, -1}) {
            due("put float " + f, x.put(6, 15, f), BAD);
            due("put float " + f + ", other high bits", x.put(6, 15, f & 0xFFFFFFFFL | 1L << 40), BAD);
        }
        for (long d : new long[] {0x7FF0000000000001L, 0x7FF8000000000000L, Long.MAX_VALUE, 0xFFF0000000000001L, -1L}) {
            due("put double " + d, x.put(7, 15, d), BAD);
        }
        due("the float is as before", x.cell(6, 15), bits(3f));
        due("the double is as before", x.cell(7, 15), bits(3.0));
        holds(x, 6, 0x7F800000, 0x7F800000);
        holds(x, 6, 0x7F7FFFFF, 0x7F7FFFFF);
        holds(x, 7, 0x7FF0000000000000L, 0x7FF0000000000000L);
        holds(x, 7, 0x7FEFFFFFFFFFFFFFL, 0x7FEFFFFFFFFFFFFFL);
    }

    private void putOnMissing() {
        states().forEach((name, state) -> {
            Probe x = state.get();
            x.drop(0);
            x.drop(9);
            for (int c : new int[] {0, 9}) {
                for (int i : new int[] {MIN, -1, 0, 15, 16, MAX}) {
                    due(name + ": put(" + c + ", " + i + ", 1)", x.put(c, i, 1), NO);
                    due(name + ": put(" + c + ", " + i + ", no number)", x.put(c, i, -1), NO);
                }
            }
            due(name + ": put(-1, 0, 1)", x.put(-1, 0, 1), BAD);
            due(name + ": put(10, 0, 1)", x.put(10, 0, 1), BAD);
        });
    }

    private void promise7() {
        states().forEach((name, state) -> {
            Probe x = state.get();
            for (int c : COLUMNS_OUT) {
                due(name + ": cell(" + c + ", 0)", x.cell(c, 0), LOST);
            }
            x.drop(9);
            for (int i : new int[] {MIN, -1, 0, 15, 16, MAX}) {
                due(name + ": cell(9, " + i + ")", x.cell(9, i), LOST);
            }
            x.column(9, 4, 16);
            x.put(9, 0, -3);
            x.put(9, 15, 4);
            for (int i : CELLS_OUT) {
                due(name + ": cell(9, " + i + ")", x.cell(9, i), LOST);
            }
            due(name + ": cell(9, 16)", x.cell(9, 16), LOST);
            due(name + ": cell(9, 15)", x.cell(9, 15), 4);
            due(name + ": cell(9, 0)", x.cell(9, 0), -3);
            x.column(9, 4, 0);
            due(name + ": of no CELLS", x.cell(9, 0), LOST);
        });
        Probe x = failed();
        due("a CELL that the RUN had set", x.cell(0, 0), 5);
    }

    private void promise8() {
        Probe x = full();
        for (int lane = 0; lane < 8; lane++) {
            due("LANE", x.about(lane, 0), lane);
            due("CELLS", x.about(lane, 1), 16);
        }
        x.column(0, 7, 0);
        due("LANE of one without CELLS", x.about(0, 0), 7);
        due("CELLS of it", x.about(0, 1), 0);
        x.column(9, 0, 1);
        due("LANE 0", x.about(9, 0), 0);
        due("one CELL", x.about(9, 1), 1);
    }

    private void aboutMissing() {
        states().forEach((name, state) -> {
            Probe x = state.get();
            for (int c : new int[] {0, 9}) {
                x.drop(c);
                due(name + ": LANE", x.about(c, 0), NONE);
                due(name + ": CELLS", x.about(c, 1), NONE);
            }
        });
    }

    private void leastColumn() {
        Probe x = new Probe();
        for (int c = 0; c <= 9; c++) {
            due("of all that are MISSING", x.about(c, 2), 0);
        }
        for (int c = 0; c <= 9; c++) {
            x.column(c, 4, 3);
            due("its own row, as the others'", x.about(c, 2), c);
            due("of those that are MISSING", x.about(9, 2), c == 9 ? 9 : c + 1);
        }
        x.share(9, 5);
        x.share(2, 9);
        due("9", x.about(9, 2), 2);
        due("5", x.about(5, 2), 2);
        due("2", x.about(2, 2), 2);
        x.drop(2);
        due("9 behind drop", x.about(9, 2), 5);
        x.drop(8);
        x.drop(6);
        due("8, MISSING", x.about(8, 2), 2);
        due("2, MISSING", x.about(2, 2), 2);
        due("6, MISSING", x.about(6, 2), 2);
        x.column(2, 4, 3);
        due("8, MISSING, now", x.about(8, 2), 6);
    }

    private void aboutNoSuch() {
        states().forEach((name, state) -> {
            Probe x = state.get();
            for (int c : COLUMNS_OUT) {
                for (int what = 0; what <= 2; what++) {
                    due(name + ": about(" + c + ", " + what + ")", x.about(c, what), -2);
                }
            }
            for (int what : outside(0, 2)) {
                due(name + ": about(0, " + what + ")", x.about(0, what), -2);
                due(name + ": about(9, " + what + ")", x.about(9, what), -2);
            }
        });
    }

    private void promise20() {
        int[][] counts = {{0, 0, 0, 0}, {16, 10, 12, 400}, {3, 2, 2, 8}, {16, 10, 0, 400}};
        int s = 0;
        for (Map.Entry<String, Supplier<Probe>> state : states().entrySet()) {
            Probe x = state.getValue().get();
            for (int what : outside(0, 3)) {
                due(state.getKey() + ": count(" + what + ")", x.count(what), BAD);
            }
            for (int what = 0; what <= 3; what++) {
                due(state.getKey() + ": count(" + what + ")", x.count(what), counts[s][what]);
            }
            s++;
        }
        Probe x = new Probe();
        x.column(0, 4, 0);
        x.share(5, 0);
        due("two COLUMNS of one row without CELLS", x.count(1), 2);
        x.share(5, 9);
        due("one behind sharing a MISSING one", x.count(1), 1);
        x.query("find");
        due("queries behind a FAULT", x.count(2), 0);
        due("bytes behind a FAULT", x.count(3), 0);
        x.feed(0, 0, 0, 0, 0);
        due("bytes", x.count(3), 20);
    }
}
