import java.util.Map;

/** Boundaries of RUNS: ==== 4, promises 15 to 19 and 21. */
public final class RunEdgesTest extends Edges {
    private static final int NULL = 1, INDEX = 2, CAST = 3, ZERO = 4, ENDLESS = 5, ROOM = 6;
    private static final Map<String, Integer> QUERIES_OF = Map.of("new", 0, "full", 12, "failed", 2, "cleared", 0);
    private static final Map<String, Integer> HITS_OF = Map.of("new", 0, "full", 16, "failed", 0, "cleared", 0);

    public static void main(String[] args) {
        new RunEdgesTest().close();
    }

    @Override
    void sentences() {
        test("FAULTS of a RUN: 1 NULL, 2 INDEX, 3 CAST, 4 ZERO, 5 ENDLESS (no number would come), 6 ROOM.", this::faults);
        test("A RUN goes through all OBJECTS, rising", this::rising);
        test("PART 0, if there is one (no: the OBJECT is passed by)", this::passedBy);
        test("then PART 1, then 2.", this::partsInTurn);
        test("In its code order's sum becomes D; that of sum J (of I, J), else D; that of mean D.", this::kindsMade);
        test("A FAULT ends it: all CELLS that it set are as before.", this::takenBack);
        test("find: HITS in order, their SCORES (doubles, 0.0 without order) of PART 1 made D", this::scores);
        test("by order: SCORES rising (down: falling), likes by OBJECT", this::order);
        test("the first NUMBER of them alone.", this::first);
        test("fold: HITS are the GROUPS", this::groups);
        test("(8 at most: ROOM;", this::eightGroups);
        test("without by: one, also of none)", this::withoutBy);
        test("in order of their first OBJECT: KEY (a long, 0 without by), how many OBJECTS", this::keys);
        test("VALUE: count J", this::counts);
        test("sum: J of I, J (wraps)", this::wholeSums);
        test("else D (from 0.0 on; ENDLESS)", this::realSums);
        test("min, max: of the sum's KIND (of none: 0)", this::leastAndMost);
        test("mean: D: the sum as D, each made D, divided by how many (of none 0.0).", this::means);
        test("set: HITS are the OBJECTS set, as they come (each at once).", this::sets);

        test("`int run(int q)`: A RUN: how many HITS", this::promise15);
        test("-10 less the OBJECT at which it FAILED (there are no HITS then). BAD.", this::failedObjects);
        test("`int told(int what)`: Of the latest RUN: 0 its FAULT (0)", this::promise16);
        test("1 the PART, 2 the ACT at which that came (NONE both", this::placesOfFaults);
        test("PART 3, ACT 0 for what comes of a fold itself", this::faultsOfFolds);
        test("3 ACTS that were done", this::actsDone);
        test("4 HITS, 5 the query (NONE before one).", this::hitsAndQuery);
        test("5 the query (NONE before one). BAD is -2 here.", this::toldNoSuch);
        test("`int hit(int k)`: The OBJECT of a HIT; of GROUPS how many OBJECTS. BAD.", this::promise17);
        test("`long score(int k)`: The bits of the SCORE of a HIT; the KEY of a GROUP. LOST.", this::promise18);
        test("`long value(int k)`: The VALUE of a GROUP: J, I as they are, of F, D bits.", this::promise19);
        test("LOST: no such (or HITS are no GROUPS).", this::noValue);
        test("`int clear()`: All queries go, the latest RUN too: how many there were.", this::promise21);
    }

    private static Probe made(int objects) {
        Probe x = new Probe();
        x.objects(objects);
        return x;
    }

    private void hits(Probe x, String text, int... objects) {
        due("run of '" + text + "'", x.ran(text), objects.length);
        due("FAULT of '" + text + "'", x.told(0), 0);
        for (int k = 0; k < objects.length; k++) {
            due("HIT " + k + " of '" + text + "'", x.hit(k), objects[k]);
        }
        due("behind the HITS of '" + text + "'", x.hit(objects.length), BAD);
    }

    private void fails(Probe x, String text, int object, int fault, int part, int act) {
        due("run of '" + text + "'", x.ran(text), -10 - object);
        due("FAULT of '" + text + "'", x.told(0), fault);
        due("PART of '" + text + "'", x.told(1), part);
        due("ACT of '" + text + "'", x.told(2), act);
        due("HITS of '" + text + "'", x.told(4), 0);
        due("HIT 0 of '" + text + "'", x.hit(0), BAD);
        due("SCORE 0 of '" + text + "'", x.score(0), LOST);
        due("VALUE 0 of '" + text + "'", x.value(0), LOST);
    }

    private void group(Probe x, int k, int objects, long key, long value) {
        due("OBJECTS of GROUP " + k, x.hit(k), objects);
        due("KEY of GROUP " + k, x.score(k), key);
        due("VALUE of GROUP " + k, x.value(k), value);
    }

    private static long[] doubles(double... values) {
        long[] all = new long[values.length];
        for (int i = 0; i < all.length; i++) {
            all[i] = bits(values[i]);
        }
        return all;
    }

    private void faults() {
        Probe x = made(1);
        x.row(0, 4, 0);
        x.query("find $0=0");
        x.query("set $0 := 1");
        for (int q = 0; q <= 1; q++) {
            x.column(0, 5, 1);
            due("CAST", x.run(q), -10);
            due("is 3", x.told(0), CAST);
            x.column(0, 4, 0);
            due("INDEX", x.run(q), -10);
            due("is 2", x.told(0), INDEX);
            x.drop(0);
            due("NULL", x.run(q), -10);
            due("is 1", x.told(0), NULL);
        }
        x = made(9);
        fails(x, "find 1/0=1", 0, ZERO, 0, 2);
        fails(x, "find 1%0=1", 0, ZERO, 0, 2);
        fails(x, "find 0.0/0=1", 0, ENDLESS, 0, 3);
        fails(x, "fold count by row", 8, ROOM, 3, 0);
        // A number that is as great as none other is one all the same.
        hits(made(1), "find 1/0.0>2147483647", 0);
    }

    private void rising() {
        Probe x = made(16);
        hits(x, "find yes", 0, 1, 2, 3, 4, 5, 6, 7, 8, 9, 10, 11, 12, 13, 14, 15);
        x.column(0, 4, 16);
        hits(x, "set $0 := row=0 ? 1 : $0[row-1]+1", 0, 1, 2, 3, 4, 5, 6, 7, 8, 9, 10, 11, 12, 13, 14, 15);
        due("each finds the one before it set", x.cell(0, 15), 16);
        fails(x, "find 1/(row/15)=row/3", 0, ZERO, 0, 4);
        fails(x, "find 1/(15-row)>=0", 15, ZERO, 0, 4);
        fails(x, "find 1/(row%5-4)<=0 and 1/(row%5-3)<=9", 3, ZERO, 0, 17);
        hits(made(0), "find yes");
        hits(made(0), "find 1/0=1");
        hits(made(1), "find yes", 0);
        due("no OBJECTS, no ACTS", actsOf(made(0), "find 1/0=1"), 0);
        due("a set of no OBJECTS", made(0).row(0, 4, 1).ran("set $0 := 5"), 0);
    }

    private static int actsOf(Probe x, String text) {
        x.ran(text);
        return x.told(3);
    }

    private void passedBy() {
        Probe x = made(3);
        x.row(0, 4, 1, 2, 3);
        hits(x, "find no order 1/0");
        hits(x, "find row=1 order 1/row", 1);
        hits(x, "set $0 := 1/0 where no");
        hits(x, "set $0 := 9 where row=2", 2);
        due("one that is passed by is not set", x.cell(0, 1), 2);
        due("the last one is", x.cell(0, 2), 9);
        due("none counts", x.ran("fold sum 1/0 where no by 1/0"), 0);
        due("none of one GROUP", x.ran("fold sum 1/0 where no"), 1);
        due("ACTS of PART 0 alone", actsOf(x, "fold sum 1/0 where no"), 3);
        // Without a PART 0 all come.
        due("all", x.ran("fold count"), 1);
        group(x, 0, 3, 0, 3);
        hits(x, "set $0 := 5", 0, 1, 2);
    }

    private void partsInTurn() {
        Probe x = made(2);
        fails(x, "fold sum 1/0 where 1%0=0 by 1/0", 0, ZERO, 0, 2);
        fails(x, "fold sum 1/0 where yes by 1%0", 0, ZERO, 1, 2);
        fails(x, "fold sum 1 where yes by 1%0", 0, ZERO, 2, 2);
        fails(x, "find 1/0=1 order 1/0", 0, ZERO, 0, 2);
        fails(x, "find row=1 order 1/0", 1, ZERO, 1, 2);
        due("ACTS of PARTS 0, 1, 2", actsOf(x, "fold max row where row<1 by 5"), 2 * 4 + 1 + 1);
        // All PARTS of an OBJECT come before the next OBJECT.
        fails(x, "fold sum 1/(1-row) by 1/row", 0, ZERO, 2, 2);
    }

    private void kindsMade() {
        code("find yes order 1", "1:1", "1:1 1614");
        code("find yes order $5", "1:1", "3 15:5 1624");
        code("find yes order $6", "1:1", "3 16:6 1634");
        code("find yes order 1.5", "1:1", "2:0");
        code("fold sum 1", "", "1:1 1612");
        code("fold sum $5", "", "3 15:5");
        code("fold sum $6", "", "3 16:6 1634");
        code("fold sum 1.5", "", "2:0");
        code("fold mean 1", "", "1:1 1614");
        code("fold mean $5", "", "3 15:5 1624");
        code("fold mean $6", "", "3 16:6 1634");
        code("fold mean 1.5", "", "2:0");
        code("fold min 1", "", "1:1");
        code("fold max $6", "", "3 16:6");
        code("fold count by 1", "", "", "1:1");
    }

    private void takenBack() {
        for (int lane = 0; lane < 8; lane++) {
            Probe x = made(16);
            for (int c = 0; c < 8; c++) {
                x.column(c, c, 16);
                for (int i = 0; i < 16; i++) {
                    x.put(c, i, i + c & 1);
                }
            }
            x.share(8, lane);
            fails(x, "set $8 := 1/(15-row)" + (lane == 0 ? "=0" : ""), 15, ZERO, 1, 5);
            for (int c = 0; c < 8; c++) {
                for (int i = 0; i < 16; i++) {
                    due("CELL " + i + " of COLUMN " + c + " behind set of " + lane, x.cell(c, i), i + c & 1);
                }
            }
        }
        Probe x = made(2);
        x.row(0, 7, doubles(-0.0, Double.MIN_VALUE, INFINITE));
        fails(x, "set $0 := row=0 ? 1.0 : 1/0", 1, ZERO, 1, 10);
        due("-0.0", x.cell(0, 0), bits(-0.0));
        due("the least", x.cell(0, 1), bits(Double.MIN_VALUE));
        // By PART 0, and by the CELL that is not there.
        x.row(0, 4, 5, 6, 7);
        fails(x, "set $0 := 9 where 1/(1-row)=1", 1, ZERO, 0, 4);
        due("CELL 0 behind a FAULT in PART 0", x.cell(0, 0), 5);
        x.objects(4);
        fails(x, "set $0 := 9", 3, INDEX, 1, 2);
        for (int i = 0; i < 3; i++) {
            due("CELL " + i + " behind INDEX", x.cell(0, i), 5 + i);
        }
        // What a RUN before it has set stays, and what was put since.
        x.objects(3);
        hits(x, "set $0 := 8 where row<2", 0, 1);
        x.put(0, 1, 77);
        fails(x, "set $0 := 6/(2-row)", 2, ZERO, 1, 5);
        due("CELL 0", x.cell(0, 0), 8);
        due("CELL 1", x.cell(0, 1), 77);
        due("CELL 2", x.cell(0, 2), 7);
        hits(x, "find $0=77", 1);
    }

    private void scores() {
        Probe x = made(3);
        x.row(0, 6, bits(0.1f), bits(-0f), bits((float) INFINITE));
        x.row(1, 5, Long.MAX_VALUE, LOST, 9007199254740993L);
        hits(x, "find yes", 0, 1, 2);
        for (int k = 0; k < 3; k++) {
            due("SCORE without order", x.score(k), bits(0.0));
        }
        hits(x, "find row!=1 order $0", 0, 2);
        due("SCORE of a float", x.score(0), bits((double) 0.1f));
        due("SCORE that is infinite", x.score(1), bits(INFINITE));
        hits(x, "find row=1 order $0", 1);
        due("SCORE -0.0", x.score(0), bits(-0.0));
        hits(x, "find yes order $1", 1, 2, 0);
        due("the least long", x.score(0), bits((double) LOST));
        due("a long that is rounded", x.score(1), bits(9007199254740992.0));
        due("the greatest long", x.score(2), bits((double) Long.MAX_VALUE));
        hits(x, "find yes order 2147483647+1 first 1", 0);
        due("an int that wraps", x.score(0), bits((double) MIN));
    }

    private void order() {
        Probe x = made(6);
        x.row(0, 7, doubles(2, -1, 2, 0.5, -1, 9));
        hits(x, "find yes order $0", 1, 4, 3, 0, 2, 5);
        hits(x, "find yes order $0 down", 5, 0, 2, 3, 1, 4);
        hits(x, "find yes order 7", 0, 1, 2, 3, 4, 5);
        hits(x, "find yes order 7 down", 0, 1, 2, 3, 4, 5);
        x.row(0, 7, doubles(0.0, -0.0, 0.0, -0.0, INFINITE, -INFINITE));
        hits(x, "find yes order $0", 5, 0, 1, 2, 3, 4);
        hits(x, "find yes order $0 down", 4, 0, 1, 2, 3, 5);
        x.row(0, 5, 9007199254740992L, 9007199254740993L, 9007199254740991L, LOST, Long.MAX_VALUE, Long.MAX_VALUE - 1);
        hits(x, "find yes order $0", 3, 2, 0, 1, 4, 5);
        x = made(16);
        hits(x, "find yes order -row", 15, 14, 13, 12, 11, 10, 9, 8, 7, 6, 5, 4, 3, 2, 1, 0);
        hits(x, "find yes order -row down", 0, 1, 2, 3, 4, 5, 6, 7, 8, 9, 10, 11, 12, 13, 14, 15);
        hits(x, "find yes order row%2", 0, 2, 4, 6, 8, 10, 12, 14, 1, 3, 5, 7, 9, 11, 13, 15);
        hits(x, "find yes order row%2 down", 1, 3, 5, 7, 9, 11, 13, 15, 0, 2, 4, 6, 8, 10, 12, 14);
        hits(x, "find row=5 order 1", 5);
        hits(x, "find no order 1");
    }

    private void first() {
        Probe x = made(4);
        x.row(0, 4, 3, 1, 2, 1);
        hits(x, "find yes first 0");
        due("told HITS", x.told(4), 0);
        due("no SCORE", x.score(0), LOST);
        hits(x, "find yes first 1", 0);
        due("told HITS", x.told(4), 1);
        hits(x, "find yes first 3", 0, 1, 2);
        due("no SCORE behind them", x.score(3), LOST);
        hits(x, "find yes first 4", 0, 1, 2, 3);
        hits(x, "find yes first 5", 0, 1, 2, 3);
        hits(x, "find yes first 16", 0, 1, 2, 3);
        hits(x, "find yes first 17", 0, 1, 2, 3);
        hits(x, "find yes first 2147483647", 0, 1, 2, 3);
        hits(x, "find no first 2");
        hits(x, "find yes order $0 first 1", 1);
        hits(x, "find yes order $0 first 3", 1, 3, 2);
        hits(x, "find yes order $0 down first 2", 0, 2);
        // All OBJECTS are gone through all the same.
        fails(x, "find 1/(3-row)>=0 first 1", 3, ZERO, 0, 4);
        due("ACTS of all", actsOf(x, "find yes first 0"), 4);
    }

    private void groups() {
        Probe x = made(5);
        due("run", x.ran("fold max row by row%2"), 2);
        group(x, 0, 3, 0, 4);
        group(x, 1, 2, 1, 3);
        due("told HITS", x.told(4), 2);
        due("no GROUP behind", x.hit(2), BAD);
        due("none at all", x.ran("fold max row where no by row"), 0);
        due("no GROUP", x.value(0), LOST);
    }

    private void eightGroups() {
        for (String fold : new String[] {"count", "sum row", "min row", "max 1.5", "mean row"}) {
            Probe x = made(8);
            due("8 GROUPS of " + fold, x.ran("fold " + fold + " by row"), 8);
            due("the eighth", x.score(7), 7);
            x.objects(9);
            fails(x, "fold " + fold + " by row", 8, ROOM, 3, 0);
            x.objects(16);
            due("8 of 16 OBJECTS", x.ran("fold " + fold + " by row&7"), 8);
            due("the eighth's OBJECTS", x.hit(7), 2);
            fails(x, "fold " + fold + " where row>2 by row", 11, ROOM, 3, 0);
            due("one that is passed by needs none", x.ran("fold " + fold + " where row<8 by row"), 8);
        }
    }

    private void withoutBy() {
        String[] folds = {"count", "sum row", "sum 1.5", "min row", "max 1.5", "mean row"};
        for (String fold : folds) {
            for (int n : new int[] {0, 1, 16}) {
                due("one GROUP", made(n).ran("fold " + fold), 1);
                Probe x = made(n);
                due("one of none", x.ran("fold " + fold + " where no"), 1);
                group(x, 0, 0, 0, 0);
                due("with by: none", x.ran("fold " + fold + " where no by row"), 0);
            }
        }
        Probe x = made(0);
        due("no OBJECTS", x.ran("fold count"), 1);
        group(x, 0, 0, 0, 0);
        due("no OBJECTS, by", x.ran("fold count by row"), 0);
        due("no GROUP", x.hit(0), BAD);
        x = made(16);
        due("all in one", x.ran("fold count"), 1);
        group(x, 0, 16, 0, 16);
    }

    private void keys() {
        Probe x = made(6);
        x.row(0, 5, 7, LOST, 7, Long.MAX_VALUE, LOST, 0);
        due("run", x.ran("fold count by $0"), 4);
        group(x, 0, 2, 7, 2);
        group(x, 1, 2, LOST, 2);
        group(x, 2, 1, Long.MAX_VALUE, 1);
        group(x, 3, 1, 0, 1);
        x.row(0, 5, 4294967296L, 0, 4294967296L, 8589934592L, 0, 0);
        due("longs of the same lowest bits", x.ran("fold count by $0"), 3);
        group(x, 0, 2, 4294967296L, 2);
        due("ints", x.ran("fold count by 0-row*2147483647"), 6);
        due("the KEY of an int is below 0", x.score(1), -2147483647);
        due("where", x.ran("fold count where row>2 by row%2"), 2);
        group(x, 0, 2, 1, 2);
        group(x, 1, 1, 0, 1);
        due("without by", x.ran("fold count"), 1);
        group(x, 0, 6, 0, 6);
    }

    private void counts() {
        Probe x = made(16);
        due("run", x.ran("fold count"), 1);
        due("of all", x.value(0), 16);
        x.ran("fold count where row=3");
        due("of one", x.value(0), 1);
        x.ran("fold count where no");
        due("of none", x.value(0), 0);
        x.ran("fold count by row%5");
        due("of a GROUP", x.value(0), 4);
        due("of another GROUP", x.value(4), 3);
    }

    private void wholeSums() {
        Probe x = made(2);
        x.row(0, 5, Long.MAX_VALUE, 1);
        x.row(1, 4, MAX, MAX);
        x.row(2, 5, LOST, LOST);
        x.ran("fold sum $0");
        due("longs wrap", x.value(0), LOST);
        x.ran("fold sum $2");
        due("longs wrap below", x.value(0), 0);
        x.ran("fold sum $1");
        due("ints are summed as longs", x.value(0), 2L * MAX);
        x.ran("fold sum $1+1");
        due("what wraps in the sum itself", x.value(0), 2L * MIN);
        x.ran("fold sum $0 where no");
        due("of none", x.value(0), 0);
        x.ran("fold sum $0 by row");
        due("of a GROUP", x.value(1), 1);
    }

    private void realSums() {
        Probe x = made(3);
        x.row(0, 7, doubles(-0.0, -0.0, -0.0));
        x.ran("fold sum $0");
        due("from 0.0 on", x.value(0), bits(0.0));
        x.row(0, 7, doubles(0.1, 0.2, 0.3));
        x.ran("fold sum $0");
        due("in their order", x.value(0), bits(0.0 + 0.1 + 0.2 + 0.3));
        x.row(0, 6, bits(16777216f), bits(1f), bits(0.1f));
        x.ran("fold sum $0");
        due("floats are summed as doubles", x.value(0), bits(16777216.0 + 1.0 + 0.1f));
        x.row(0, 7, doubles(Double.MAX_VALUE, Double.MAX_VALUE, 1));
        x.ran("fold sum $0");
        due("a sum that is infinite", x.value(0), bits(INFINITE));
        x.row(0, 7, doubles(Double.MAX_VALUE, Double.MAX_VALUE, -INFINITE));
        fails(x, "fold sum $0", 2, ENDLESS, 3, 0);
        x.row(0, 7, doubles(INFINITE, -INFINITE, 1));
        fails(x, "fold sum $0", 1, ENDLESS, 3, 0);
        x.row(0, 6, bits((float) -INFINITE), bits((float) INFINITE), 0);
        fails(x, "fold sum $0", 1, ENDLESS, 3, 0);
        due("in GROUPS of their own", x.ran("fold sum $0 by row"), 3);
        due("one's VALUE", x.value(1), bits(INFINITE));
        x.ran("fold sum $0 where no");
        due("of none", x.value(0), bits(0.0));
    }

    private void leastAndMost() {
        Probe x = made(3);
        x.row(0, 4, 0, MIN, MAX);
        x.row(1, 5, 0, Long.MAX_VALUE, LOST);
        x.row(2, 6, bits(-1.5f), bits((float) INFINITE), bits((float) -INFINITE));
        x.row(3, 7, doubles(0.0, -0.0, 0.0));
        x.row(4, 7, doubles(-0.0, 0.0, -0.0));
        x.row(5, 7, doubles(-2.0, -1.0, -3.0));
        long[] least = {MIN, LOST, bits((float) -INFINITE), bits(-0.0), bits(-0.0), bits(-3.0)};
        long[] most = {MAX, Long.MAX_VALUE, bits((float) INFINITE), bits(0.0), bits(0.0), bits(-1.0)};
        for (int c = 0; c < least.length; c++) {
            x.ran("fold min $" + c);
            due("min of COLUMN " + c, x.value(0), least[c]);
            x.ran("fold max $" + c);
            due("max of COLUMN " + c, x.value(0), most[c]);
            x.ran("fold min $" + c + " where no");
            due("min of none", x.value(0), 0);
            x.ran("fold max $" + c + " where no");
            due("max of none", x.value(0), 0);
        }
        x.ran("fold max $5 where row=2");
        due("max of one, below 0", x.value(0), bits(-3.0));
        x.ran("fold min $0 where row=2");
        due("min of one, above 0", x.value(0), MAX);
        x.ran("fold max $0-1");
        due("an int wraps, as KIND I", x.value(0), MAX);
    }

    private void means() {
        Probe x = made(3);
        x.row(0, 5, Long.MAX_VALUE, Long.MAX_VALUE, 1);
        x.ran("fold mean $0");
        due("longs do not wrap", x.value(0), bits((0.0 + (double) Long.MAX_VALUE + (double) Long.MAX_VALUE + 1.0) / 3));
        x.ran("fold mean row where row>0");
        due("of ints", x.value(0), bits(1.5));
        x.ran("fold mean row where no");
        due("of none", x.value(0), bits(0.0));
        x.row(0, 6, bits(0.1f), bits(0.2f), bits(0.4f));
        x.ran("fold mean $0");
        due("of floats", x.value(0), bits((0.0 + (double) 0.1f + (double) 0.2f + (double) 0.4f) / 3));
        x.row(0, 7, doubles(-0.0, -0.0, -0.0));
        x.ran("fold mean $0");
        due("of -0.0", x.value(0), bits(0.0));
        x.row(0, 7, doubles(Double.MAX_VALUE, Double.MAX_VALUE, -Double.MAX_VALUE));
        x.ran("fold mean $0");
        due("a sum that is infinite on the way", x.value(0), bits(INFINITE));
        x.row(0, 7, doubles(INFINITE, 1, -INFINITE));
        fails(x, "fold mean $0", 2, ENDLESS, 3, 0);
        due("by", x.ran("fold mean $0 by row"), 3);
        due("of an infinite one", x.value(2), bits(-INFINITE));
        x.row(0, 4, 7, 8, 8);
        due("by likes", x.ran("fold mean row by $0"), 2);
        group(x, 0, 1, 7, bits(0.0));
        group(x, 1, 2, 8, bits(1.5));
    }

    private void sets() {
        Probe x = made(4);
        x.row(0, 4, 1, 2, 3, 4);
        hits(x, "set $0 := $0*10 where $0!=2", 0, 2, 3);
        for (int k = 0; k < 3; k++) {
            due("SCORE", x.score(k), bits(0.0));
            due("VALUE", x.value(k), LOST);
        }
        due("CELL 1 is not set", x.cell(0, 1), 2);
        due("CELL 3 is", x.cell(0, 3), 40);
        hits(x, "set $0 := $0[(row+3)%4]", 0, 1, 2, 3);
        for (int i = 0; i < 4; i++) {
            due("each finds what was set before: CELL " + i, x.cell(0, i), 40);
        }
        hits(x, "set $0 := 5 where no");
        x.share(1, 0);
        hits(x, "set $1 := $0[0]+1", 0, 1, 2, 3);
        due("at once, by whatever COLUMN", x.cell(0, 3), 42);
        due("CELL 0", x.cell(0, 0), 41);
        hits(x, "set $0 := row where $0[0]>0", 0);
        due("a CELL that PART 0 looks at is set at once", x.cell(0, 1), 42);
    }

    private void promise15() {
        states().forEach((name, state) -> {
            Probe x = state.get();
            int there = QUERIES_OF.get(name);
            for (int q : outside(0, there - 1)) {
                due(name + ": run(" + q + ")", x.run(q), BAD);
            }
            if (there > 0) {
                due(name + ": run(0)", x.run(0), name.equals("full") ? 5 : 2);
                due(name + ": run(0) again", x.run(0), name.equals("full") ? 5 : 2);
                due(name + ": the last one", x.run(there - 1), name.equals("full") ? 16 : -11);
            }
            x.clear();
            x.end(0);
            x.objects(16);
            due(name + ": of all", x.ran("find yes"), 16);
            due(name + ": of none", x.ran("find no"), 0);
            due(name + ": of one GROUP", x.ran("fold count"), 1);
        });
        Probe x = made(3);
        x.query("find yes");
        x.objects(5);
        due("of OBJECTS that are there now", x.run(0), 5);
        x.objects(0);
        due("of no OBJECTS", x.run(0), 0);
    }

    private void failedObjects() {
        for (int n : new int[] {1, 2, 16}) {
            Probe x = made(n);
            fails(x, "find 1/(row-" + (n - 1) + ")<2", n - 1, ZERO, 0, 4);
            due("the last OBJECT fails", x.run(0), -10 - (n - 1));
            fails(x, "fold count by 1/(row-" + (n - 1) + ")", n - 1, ZERO, 2, 4);
        }
        Probe x = made(4);
        due("HITS before", x.ran("find yes"), 4);
        x.query("find 1/0=1");
        due("a RUN that fails", x.run(1), -10);
        for (int k = 0; k < 4; k++) {
            due("no HIT " + k, x.hit(k), BAD);
            due("no SCORE " + k, x.score(k), LOST);
        }
        due("a RUN behind it", x.run(0), 4);
        due("its HITS", x.hit(3), 3);
        // However many of them, they leave nothing on the PILE.
        x = made(1);
        String deep = "1|1<<1+1*(".repeat(5);
        x.query("fold max " + deep + "1/0" + ")".repeat(5));
        x.query("fold max " + deep + "1|1<<1+1" + ")".repeat(5));
        for (int round = 0; round < 30; round++) {
            due("a RUN that fails with 20 on the PILE", x.run(0), -10);
        }
        due("one that needs 24", x.run(1), 1);
        due("its VALUE", x.value(0), 1 | 1 << 1 + deepest(4));
    }

    /** 1|1<<1+1*(.. so many times. */
    private static int deepest(int times) {
        return times == 0 ? 1 | 1 << 1 + 1 : 1 | 1 << 1 + deepest(times - 1);
    }

    private void promise16() {
        int[] told = {0, 0, ZERO, 0};
        int s = 0;
        for (String name : states().keySet()) {
            due(name + ": FAULT", states().get(name).get().told(0), told[s]);
            s++;
        }
        Probe x = failed();
        x.run(0);
        due("behind a RUN that did not fail", x.told(0), 0);
        x.run(1);
        due("behind one that did", x.told(0), ZERO);
        x.run(2);
        due("behind a refused call", x.told(0), ZERO);
        x.query("find");
        due("behind a text with a FAULT", x.told(0), ZERO);
        x.clear();
        due("behind clear", x.told(0), 0);
    }

    private void placesOfFaults() {
        int[] part = {NONE, NONE, 1, NONE};
        int[] act = {NONE, NONE, 4, NONE};
        int s = 0;
        for (String name : states().keySet()) {
            Probe x = states().get(name).get();
            due(name + ": PART", x.told(1), part[s]);
            due(name + ": ACT", x.told(2), act[s]);
            s++;
        }
        Probe x = made(1);
        fails(x, "find 1/0=1", 0, ZERO, 0, 2);
        fails(x, "find yes or no order 1/0", 0, ZERO, 1, 2);
        fails(x, "fold count by 1/0", 0, ZERO, 2, 2);
        // The last of 200 ACTS, and one behind jumps.
        fails(x, "fold max (-1" + "+1".repeat(98) + ")/0", 0, ZERO, 1, 199);
        fails(x, "find no or 1/0=1", 0, ZERO, 0, 4);
        x.ran("find yes");
        due("PART, of none", x.told(1), NONE);
        due("ACT, of none", x.told(2), NONE);
    }

    private void faultsOfFolds() {
        Probe x = made(9);
        fails(x, "fold count by row", 8, ROOM, 3, 0);
        due("ACTS done are all", x.told(3), 9);
        x.objects(2);
        x.row(0, 7, doubles(INFINITE, -INFINITE));
        fails(x, "fold sum $0", 1, ENDLESS, 3, 0);
        fails(x, "fold mean $0", 1, ENDLESS, 3, 0);
        fails(x, "fold sum $0-$0", 0, ENDLESS, 1, 4);
        fails(x, "fold sum $0 by 1/row", 0, ZERO, 2, 2);
    }

    private void actsDone() {
        int[] told = {0, 64, 10, 0};
        int s = 0;
        for (String name : states().keySet()) {
            due(name + ": ACTS", states().get(name).get().told(3), told[s]);
            s++;
        }
        Probe x = made(3);
        x.row(0, 4, 5, 0, 5);
        due("of all", actsOf(x, "find $0=5"), 15);
        due("with order", actsOf(x, "find $0=5 order row"), 15 + 2 * 2);
        due("jumps are ACTS", actsOf(x, "find yes or no"), 3 * 3);
        due("what is jumped over is none", actsOf(x, "find no or no"), 3 * 4);
        due("of a fold", actsOf(x, "fold sum row where $0=5 by row"), 15 + 2 * 3);
        due("of a set", actsOf(x, "set $0 := 5 where row=1"), 3 * 4 + 3);
        x.put(0, 1, 0);
        due("the one that fails is not done", actsOf(x, "find 1/$0<9"), 7 + 3);
        due("nor is a CELL that is not there", actsOf(x, "find $0[0-row]=5"), 7 + 3);
        due("nor is it of the first OBJECT", actsOf(x, "fold count where $0[0-1]=5"), 3);
        due("of no OBJECTS", actsOf(made(0), "find yes"), 0);
        due("of no ACTS", actsOf(made(3), "fold count"), 0);
        x = made(16);
        String deep = "fold max " + "1+".repeat(99) + "1";
        due("16 OBJECTS of 199", actsOf(x, deep), 16 * 199);
        x.clear();
        due("behind clear", x.told(3), 0);
    }

    private void hitsAndQuery() {
        int[] hits = {0, 16, 0, 0};
        int[] query = {NONE, 11, 1, NONE};
        int s = 0;
        for (String name : states().keySet()) {
            Probe x = states().get(name).get();
            due(name + ": HITS", x.told(4), hits[s]);
            due(name + ": the query", x.told(5), query[s]);
            s++;
        }
        Probe x = made(2);
        x.query("find yes");
        due("a query that was not run", x.told(5), NONE);
        x.query("fold count by row");
        x.query("find 1/0=1");
        for (int q = 0; q < 3; q++) {
            x.run(q);
            due("the query", x.told(5), q);
            due("its HITS", x.told(4), q < 2 ? 2 : 0);
        }
        x.run(3);
        due("behind a refused call", x.told(5), 2);
        x.objects(0);
        x.run(0);
        due("of no OBJECTS", x.told(4), 0);
        due("the query of that", x.told(5), 0);
        x.clear();
        due("behind clear", x.told(5), NONE);
        x.query("find yes");
        due("behind clear and a new query", x.told(5), NONE);
    }

    private void toldNoSuch() {
        states().forEach((name, state) -> {
            Probe x = state.get();
            for (int what : outside(0, 5)) {
                due(name + ": told(" + what + ")", x.told(what), -2);
            }
        });
    }

    private void promise17() {
        states().forEach((name, state) -> {
            Probe x = state.get();
            int hits = HITS_OF.get(name);
            for (int k : outside(0, hits - 1)) {
                due(name + ": hit(" + k + ")", x.hit(k), BAD);
            }
            for (int k = 0; k < 16; k++) {
                due(name + ": hit(" + k + ")", x.hit(k), k < hits ? k : BAD);
            }
        });
        Probe x = made(16);
        x.ran("fold count by row&7");
        due("OBJECTS of the first GROUP", x.hit(0), 2);
        due("of the eighth", x.hit(7), 2);
        for (int k : outside(0, 7)) {
            due("GROUP " + k, x.hit(k), BAD);
        }
        x.ran("fold count");
        due("of the one", x.hit(0), 16);
        due("a second one", x.hit(1), BAD);
        x.ran("fold count where no");
        due("of none", x.hit(0), 0);
        // HITS are those of the RUN, whatever comes behind it.
        x.ran("find row>13");
        x.objects(0);
        x.query("find no");
        due("HIT 1", x.hit(1), 15);
        due("HIT 2", x.hit(2), BAD);
    }

    private void promise18() {
        states().forEach((name, state) -> {
            Probe x = state.get();
            int hits = HITS_OF.get(name);
            for (int k : outside(0, hits - 1)) {
                due(name + ": score(" + k + ")", x.score(k), LOST);
            }
            for (int k = 0; k < 16; k++) {
                due(name + ": score(" + k + ")", x.score(k), k < hits ? 0 : LOST);
            }
        });
        Probe x = made(16);
        x.ran("find yes order row-8 down");
        due("the first one's bits", x.score(0), bits(7.0));
        due("the last one's bits", x.score(15), bits(-8.0));
        due("behind the last", x.score(16), LOST);
        x.ran("fold count by (row&7)-4");
        due("the first KEY", x.score(0), -4);
        due("the eighth KEY", x.score(7), 3);
        for (int k : outside(0, 7)) {
            due("KEY " + k, x.score(k), LOST);
        }
        x.ran("fold count");
        due("the KEY without by", x.score(0), 0);
        due("no second one", x.score(1), LOST);
        x.ran("find no order 1");
        due("no HITS", x.score(0), LOST);
    }

    private void promise19() {
        Probe x = made(3);
        x.row(0, 4, -5, MIN, MAX);
        x.row(1, 5, LOST, 5, 6);
        x.row(2, 6, bits(-1.5f), bits(2f), bits(3f));
        x.row(3, 7, doubles(-1.5, 2.0, 3.0));
        String[] folds = {"min $0", "max $0", "min $1", "sum $0", "min $2", "sum $2", "min $3", "sum $3", "mean $0", "count"};
        long[] values = {MIN, MAX, LOST, -6, bits(-1.5f), bits(3.5), bits(-1.5), bits(3.5), bits(-2.0), 3};
        for (int i = 0; i < folds.length; i++) {
            due(folds[i], x.ran("fold " + folds[i]), 1);
            due("VALUE of " + folds[i], x.value(0), values[i]);
            due("behind it", x.value(1), LOST);
        }
        x.objects(16);
        x.ran("fold sum row by row&7");
        due("the first", x.value(0), 8);
        due("the eighth", x.value(7), 22);
        for (int k : outside(0, 7)) {
            due("VALUE " + k, x.value(k), LOST);
        }
    }

    private void noValue() {
        states().forEach((name, state) -> {
            Probe x = state.get();
            for (int k : new int[] {MIN, -1, 0, 1, 7, 8, 15, 16, MAX}) {
                due(name + ": value(" + k + ")", x.value(k), LOST);
            }
        });
        Probe x = made(4);
        x.row(0, 4, 1, 2, 3, 4);
        x.ran("fold count");
        due("of a GROUP", x.value(0), 4);
        x.ran("find yes order row");
        due("of a HIT of find", x.value(0), LOST);
        x.ran("set $0 := 1");
        due("of a HIT of set", x.value(0), LOST);
        x.ran("fold count by row");
        due("of GROUP 3", x.value(3), 1);
        x.ran("fold count by 1/0");
        due("behind a failed RUN", x.value(0), LOST);
        x.ran("fold count where no by row");
        due("of no GROUPS", x.value(0), LOST);
    }

    private void promise21() {
        states().forEach((name, state) -> {
            Probe x = state.get();
            String columns = x.count(0) + " " + x.count(1) + " " + x.count(3) + " " + x.cell(1, 0) + " " + x.fault();
            due(name + ": clear", x.clear(), QUERIES_OF.get(name));
            due(name + ": clear again", x.clear(), 0);
            due(name + ": queries", x.count(2), 0);
            for (int q : new int[] {MIN, -1, 0, 11, MAX}) {
                due(name + ": acts", x.acts(q, 0), BAD);
                due(name + ": act", x.act(q, 0, 0, 0), BAD2);
                due(name + ": run", x.run(q), BAD);
            }
            int[] told = {0, NONE, NONE, 0, 0, NONE};
            for (int what = 0; what < told.length; what++) {
                due(name + ": told " + what, x.told(what), told[what]);
            }
            due(name + ": hit", x.hit(0), BAD);
            due(name + ": score", x.score(0), LOST);
            due(name + ": value", x.value(0), LOST);
            dueText(name + ": OBJECTS, COLUMNS, THE TAPE, FAULT", x.count(0) + " " + x.count(1) + " " + x.count(3) + " "
                + x.cell(1, 0) + " " + x.fault(), columns);
            x.end(0);
            due(name + ": numbers from 0 again", x.query("find yes"), 0);
        });
        Probe x = made(1);
        for (int round = 0; round < 3; round++) {
            for (int q = 0; q < 12; q++) {
                due("query", x.query("find yes"), q);
            }
            due("a 13th", x.query("find yes"), FULL);
            x.end(0);
            due("clear twelve", x.clear(), 12);
        }
        x.query("fold count by row");
        x.run(0);
        x.clear();
        x.query("find yes");
        due("HITS of GROUPS are forgotten", x.value(0), LOST);
        x.query("find");
        due("a text's FAULT", x.fault(), 2);
        x.clear();
        due("stays", x.fault(), 2);
    }
}
