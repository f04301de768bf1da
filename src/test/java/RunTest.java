/** Promises 15 to 19 and 21: RUNS, their HITS and GROUPS, each FAULT of a RUN, what clear forgets. */
public final class RunTest {
    private static final Check CHECK = new Check("RunTest");
    private static final long LOST = Long.MIN_VALUE;
    private static final long INFINITE = 0x7FF0000000000000L;

    public static void main(String[] args) {
        finds();
        orders();
        counts();
        sums();
        leastAndMost();
        means();
        rooms();
        sets();
        setsShared();
        cellFaults();
        numberFaults();
        noFaults();
        piles();
        foldFaults();
        undone();
        actsDone();
        latest();
        sixteen();
        CHECK.close();
    }

    private static void due(String call, long got, long want) {
        CHECK.due(call, got, want);
    }

    private static long bits(double d) {
        return Double.doubleToRawLongBits(d);
    }

    private static QueryClasses made(int objects) {
        QueryClasses x = new QueryClasses();
        x.objects(objects);
        return x;
    }

    private static void fill(QueryClasses x, int c, int lane, long... cells) {
        x.column(c, lane, cells.length);
        for (int i = 0; i < cells.length; i++) {
            x.put(c, i, cells[i]);
        }
    }

    private static int ran(QueryClasses x, String text) {
        x.clear();
        int q = Check.query(x, text);
        due("query of '" + text + "'", q, 0);
        return x.run(q);
    }

    private static void hits(QueryClasses x, String text, int... objects) {
        due("run of '" + text + "'", ran(x, text), objects.length);
        due("told 0", x.told(0), 0);
        due("told 1", x.told(1), -1);
        due("told 2", x.told(2), -1);
        due("told 4", x.told(4), objects.length);
        due("told 5", x.told(5), 0);
        for (int k = 0; k < objects.length; k++) {
            due("hit " + k + " of '" + text + "'", x.hit(k), objects[k]);
            due("no value " + k, x.value(k), LOST);
        }
        due("no hit behind", x.hit(objects.length), QueryClasses.BAD);
        due("no hit -1", x.hit(-1), QueryClasses.BAD);
        due("no score behind", x.score(objects.length), LOST);
        due("no score -1", x.score(-1), LOST);
    }

    private static void failed(QueryClasses x, String text, int object, int fault, int part, int act) {
        due("run of '" + text + "'", ran(x, text), -10 - object);
        due("fault of '" + text + "'", x.told(0), fault);
        due("part of '" + text + "'", x.told(1), part);
        due("act of '" + text + "'", x.told(2), act);
        due("no hits", x.told(4), 0);
        due("the query", x.told(5), 0);
        due("no hit", x.hit(0), QueryClasses.BAD);
        due("no score", x.score(0), LOST);
        due("no value", x.value(0), LOST);
    }

    private static void finds() {
        QueryClasses x = made(5);
        fill(x, 0, 4, 3, -1, 3, 0, 7);
        fill(x, 1, 0, 1, 0, 0, 1, 1);
        hits(x, "find yes", 0, 1, 2, 3, 4);
        due("no order: 0.0", x.score(4), 0);
        hits(x, "find no");
        hits(x, "find $0=3", 0, 2);
        hits(x, "find $1", 0, 3, 4);
        hits(x, "find not $1", 1, 2);
        hits(x, "find (not $1)=yes", 1, 2);
        hits(x, "find $1 and $0>0", 0, 4);
        hits(x, "find $1 or $0<0", 0, 1, 3, 4);
        hits(x, "find row>1 first 2", 2, 3);
        hits(x, "find yes first 0");
        hits(x, "find yes first 5", 0, 1, 2, 3, 4);
        hits(x, "find yes first 2147483647", 0, 1, 2, 3, 4);
        hits(x, "find $0[4-row]=3", 2, 4);
        hits(x, "find no and $0[99]=0");
        hits(x, "find yes or $0[99]=0", 0, 1, 2, 3, 4);
        x.objects(0);
        hits(x, "find yes");
        x.objects(2);
        hits(x, "find yes", 0, 1);
        due("run of no query", x.run(1), QueryClasses.BAD);
        due("run of -1", x.run(-1), QueryClasses.BAD);
        due("that changes nothing", x.told(4), 2);
    }

    private static void orders() {
        QueryClasses x = made(6);
        fill(x, 0, 7, bits(2), bits(-1), bits(2), bits(0.5), bits(-1), bits(9));
        hits(x, "find yes order $0", 1, 4, 3, 0, 2, 5);
        due("least score", x.score(0), bits(-1));
        due("greatest score", x.score(5), bits(9));
        hits(x, "find yes order $0 down", 5, 0, 2, 3, 1, 4);
        hits(x, "find yes order $0 first 3", 1, 4, 3);
        hits(x, "find yes order $0 down first 1", 5);
        hits(x, "find row>0 order -row", 5, 4, 3, 2, 1);
        due("an int becomes a double", x.score(0), bits(-5));
        hits(x, "find row<3 order float(row)/2", 0, 1, 2);
        due("a float becomes a double", x.score(1), bits(0.5));
        fill(x, 1, 7, bits(0.0), bits(-0.0), bits(0.0), bits(-0.0), INFINITE, -1L << 52);
        hits(x, "find yes order $1", 5, 0, 1, 2, 3, 4);
        due("-0.0 stays itself", x.score(2), bits(-0.0));
        due("endless itself is a score", x.score(5), INFINITE);
        hits(x, "find yes order $1 down", 4, 0, 1, 2, 3, 5);
    }

    private static void group(QueryClasses x, int k, int objects, long key, long value) {
        due("objects of group " + k, x.hit(k), objects);
        due("key of group " + k, x.score(k), key);
        due("value of group " + k, x.value(k), value);
    }

    private static void counts() {
        QueryClasses x = made(5);
        fill(x, 0, 5, 7, -3, 7, Long.MIN_VALUE, -3);
        due("count", ran(x, "fold count"), 1);
        group(x, 0, 5, 0, 5);
        due("count where", ran(x, "fold count where row>2"), 1);
        group(x, 0, 2, 0, 2);
        due("count of none", ran(x, "fold count where no"), 1);
        group(x, 0, 0, 0, 0);
        due("count by", ran(x, "fold count by $0"), 3);
        group(x, 0, 2, 7, 2);
        group(x, 1, 2, -3, 2);
        group(x, 2, 1, Long.MIN_VALUE, 1);
        due("no value behind", x.value(3), LOST);
        due("no value -1", x.value(-1), LOST);
        due("by of none", ran(x, "fold count where no by row"), 0);
        due("no group", x.hit(0), -1);
        x.objects(0);
        due("no objects", ran(x, "fold count"), 1);
        group(x, 0, 0, 0, 0);
        due("no objects, by", ran(x, "fold count by row"), 0);
    }

    private static void sums() {
        QueryClasses x = made(3);
        fill(x, 0, 4, 2147483647, 2147483647, -1);
        fill(x, 1, 5, Long.MAX_VALUE, 1, 0);
        fill(x, 2, 6, Float.floatToRawIntBits(0.1f), Float.floatToRawIntBits(0.2f), Float.floatToRawIntBits(-0f));
        fill(x, 3, 7, bits(-0.0), bits(-0.0), bits(-0.0));
        ran(x, "fold sum $0");
        group(x, 0, 3, 0, 4294967293L);
        ran(x, "fold sum $1");
        group(x, 0, 3, 0, Long.MIN_VALUE);
        ran(x, "fold sum $2");
        group(x, 0, 3, 0, bits(0.0 + (double) 0.1f + (double) 0.2f));
        ran(x, "fold sum $3");
        group(x, 0, 3, 0, bits(0.0));
        ran(x, "fold sum $0 where no");
        group(x, 0, 0, 0, 0);
        ran(x, "fold sum $3 where no");
        group(x, 0, 0, 0, 0);
        due("sum by", ran(x, "fold sum row*10 by row%2"), 2);
        group(x, 0, 2, 0, 20);
        group(x, 1, 1, 1, 10);
        ran(x, "fold sum 2147483647*2");
        group(x, 0, 3, 0, -6);
    }

    private static void leastAndMost() {
        QueryClasses x = made(3);
        fill(x, 0, 4, 5, -2, 9);
        fill(x, 1, 5, 5, Long.MIN_VALUE, Long.MAX_VALUE);
        fill(x, 2, 6, Float.floatToRawIntBits(-1.5f), Float.floatToRawIntBits(3f), Float.floatToRawIntBits(-2.5f));
        fill(x, 3, 7, bits(0.0), bits(-0.0), bits(0.0));
        fill(x, 4, 7, bits(-4), -1L << 52, bits(-0.5));
        String[] texts = {"min $0", "max $0", "min $1", "max $1", "min $2", "max $2", "min $3", "max $3", "min $4", "max $4",
            "min $4 where row=0", "max $2 where no", "min $4 where no"};
        long[] values = {-2, 9, Long.MIN_VALUE, Long.MAX_VALUE, Float.floatToRawIntBits(-2.5f), Float.floatToRawIntBits(3f),
            bits(-0.0), bits(0.0), -1L << 52, bits(-0.5), bits(-4), 0, 0};
        for (int i = 0; i < texts.length; i++) {
            due(texts[i], ran(x, "fold " + texts[i]), 1);
            due("value of " + texts[i], x.value(0), values[i]);
        }
        due("max by", ran(x, "fold max $0 by row=1 ? 5 : 6"), 2);
        group(x, 0, 2, 6, 9);
        group(x, 1, 1, 5, -2);
    }

    private static void means() {
        QueryClasses x = made(3);
        fill(x, 0, 4, 1, 2, 4);
        fill(x, 1, 5, Long.MAX_VALUE, Long.MAX_VALUE, 1);
        ran(x, "fold mean $0");
        group(x, 0, 3, 0, bits(7.0 / 3));
        ran(x, "fold mean $1");
        group(x, 0, 3, 0, bits((0.0 + (double) Long.MAX_VALUE + (double) Long.MAX_VALUE + 1.0) / 3));
        ran(x, "fold mean $0 where no");
        group(x, 0, 0, 0, 0);
        due("mean by", ran(x, "fold mean $0 by $0&1"), 2);
        group(x, 0, 1, 1, bits(1));
        group(x, 1, 2, 0, bits(3));
    }

    private static void rooms() {
        QueryClasses x = made(9);
        fill(x, 0, 4, 0, 1, 2, 3, 4, 5, 6, 7, 7);
        due("8 groups", ran(x, "fold count by $0"), 8);
        group(x, 7, 2, 7, 2);
        failed(x, "fold count by row", 8, 6, 3, 0);
        failedAtNinth(x, "fold sum row where row!=1 by row*3", 8);
    }

    /** Its eighth GROUP has that OBJECT, the next one finds no room. */
    private static void failedAtNinth(QueryClasses x, String text, int eighth) {
        x.objects(eighth + 1);
        due("8 groups of '" + text + "'", ran(x, text), 8);
        x.objects(eighth + 3);
        failed(x, text, eighth + 1, 6, 3, 0);
    }

    private static void sets() {
        QueryClasses x = made(4);
        fill(x, 0, 4, 1, 2, 3, 4);
        fill(x, 1, 4, 0, 0, 0, 0, 99);
        hits(x, "set $1 := $0*$0 where $0!=2", 0, 2, 3);
        long[] squares = {1, 0, 9, 16, 99};
        for (int i = 0; i < squares.length; i++) {
            due("set cell " + i, x.cell(1, i), squares[i]);
        }
        due("score of a set", x.score(0), 0);
        hits(x, "set $1 := row=0 ? 1 : $1[row-1]+$1[row-1]", 0, 1, 2, 3);
        due("each at once", x.cell(1, 3), 8);
        hits(x, "set $1 := 5 where no");
        due("nothing set", x.cell(1, 0), 1);
        long[] from = {300, -1, 70000, 5000000000L};
        fill(x, 2, 5, from);
        for (int lane = 1; lane < 8; lane++) {
            x.column(3, lane, 4);
            hits(x, "set $3 := $2", 0, 1, 2, 3);
            for (int i = 0; i < 4; i++) {
                int v = (int) from[i];
                long[] want = {0, (byte) v, (short) v, (char) v, v, from[i], Float.floatToRawIntBits(from[i]),
                    bits((double) from[i])};
                due("lane " + lane + " cell " + i, x.cell(3, i), want[lane]);
            }
        }
        x.column(3, 0, 4);
        hits(x, "set $3 := $0>2", 0, 1, 2, 3);
        due("a truth", x.cell(3, 2), 1);
        due("none", x.cell(3, 1), 0);
    }

    private static void setsShared() {
        QueryClasses x = made(3);
        fill(x, 0, 4, 1, 2, 3);
        x.share(5, 0);
        hits(x, "set $5 := $0[2-row]*10", 0, 1, 2);
        due("shared 0", x.cell(0, 0), 30);
        due("shared 1", x.cell(0, 1), 20);
        due("shared 2", x.cell(0, 2), 300);
    }

    private static void cellFaults() {
        QueryClasses x = made(3);
        fill(x, 0, 4, 0, 1, 2);
        fill(x, 1, 4, 0, 1);
        failed(x, "find $1=0", 2, 2, 0, 1);
        failed(x, "find $0[-1]=0", 0, 2, 0, 2);
        failed(x, "find $0[3]=0", 0, 2, 0, 1);
        failed(x, "find $0[2147483647]=0", 0, 2, 0, 1);
        failed(x, "find yes order $0[row+1]", 2, 2, 1, 3);
        failed(x, "fold count by $1", 2, 2, 2, 1);
        failed(x, "set $1 := 7", 2, 2, 1, 2);
        due("as before", x.cell(1, 0), 0);
        x.column(2, 4, 0);
        failed(x, "find $2=0", 0, 2, 0, 1);
        hits(x, "find $0=1 or $0=2", 1, 2);
        int q = 0;
        x.column(0, 5, 3);
        due("another lane", x.run(q), -10);
        due("is CAST", x.told(0), 3);
        due("at act 1", x.told(2), 1);
        x.drop(0);
        due("missing", x.run(q), -10);
        due("is NULL", x.told(0), 1);
        due("in part 0", x.told(1), 0);
        fill(x, 0, 4, 0, 1, 2);
        due("well again", x.run(q), 2);
        due("no fault", x.told(0), 0);
        x.column(0, 4, 2);
        due("a shorter one", x.run(q), -12);
        x.clear();
        Check.query(x, "set $0 := 1");
        x.column(0, 1, 0);
        due("set of another lane", x.run(0), -10);
        due("is CAST, ahead of INDEX", x.told(0), 3);
        x.drop(0);
        due("set of a missing one", x.run(0), -10);
        due("is NULL", x.told(0), 1);
        due("at 20 + l", x.told(2), 2);
    }

    private static void numberFaults() {
        QueryClasses x = made(2);
        fill(x, 0, 4, 1, 0);
        fill(x, 1, 5, 1, 0);
        fill(x, 2, 7, INFINITE, INFINITE);
        fill(x, 3, 6, 0x7F800000, 0x7F800000);
        fill(x, 4, 7, bits(1), bits(0));
        failed(x, "find 1/$0=1", 1, 4, 0, 3);
        failed(x, "find 1%$0=1", 1, 4, 0, 3);
        failed(x, "find 1/$1=1", 1, 4, 0, 4);
        failed(x, "find $1%$1=1", 1, 4, 0, 4);
        failed(x, "find $2-$2=1", 0, 5, 0, 4);
        failed(x, "find $2+-$2=1", 0, 5, 0, 5);
        failed(x, "find $3-$3=1", 0, 5, 0, 4);
        failed(x, "find $3+-$3=1", 0, 5, 0, 5);
        failed(x, "find 0.0*$2=1", 0, 5, 0, 3);
        failed(x, "find $2*-0.0=1", 0, 5, 0, 4);
        failed(x, "find $3*0=1", 0, 5, 0, 4);
        failed(x, "find $2/$2=1", 0, 5, 0, 4);
        failed(x, "find $3/-$3=1", 0, 5, 0, 5);
        failed(x, "find $4/$4=1", 1, 5, 0, 4);
        failed(x, "find float($4)/float($4)=1", 1, 5, 0, 6);
        failed(x, "find 1%$4=1", 1, 5, 0, 4);
        failed(x, "find $2%1=1", 0, 5, 0, 4);
        failed(x, "find float(1)%float($4)=1", 1, 5, 0, 5);
    }

    private static void noFaults() {
        QueryClasses x = made(1);
        fill(x, 2, 7, INFINITE);
        fill(x, 4, 7, 0);
        fill(x, 5, 7, bits(1e300));
        fill(x, 6, 4, -2147483648);
        fill(x, 7, 5, Long.MIN_VALUE);
        hits(x, "find $2+$2=$2 and $2-1=$2 and -$2<0 and $2*-1=-$2", 0);
        hits(x, "find 1/$4=$2 and -1/$4=-$2 and 1/$2=0 and 5%$2=5", 0);
        hits(x, "find $5*$5=$2 and float($5)=$2 and float($5)*float(-1)=-$2", 0);
        hits(x, "find int($2)=2147483647 and long(-$2)=$7", 0);
        hits(x, "find -$6=$6 and abs($6)=$6 and $6/-1=$6 and $6%-1=0", 0);
        hits(x, "find -$7=$7 and abs($7)=$7 and $7/-1=$7 and $7%-1=0", 0);
        hits(x, "find 1<<33=2 and long(1)<<33=long(65536)*131072", 0);
        hits(x, "find $6>>31=-1 and $6>>>31=1 and $7>>>63=1 and $7>>63=-1", 0);
    }

    /** Where two ways meet, as much lies on the PILE; 24 on it are no fault. */
    private static void piles() {
        QueryClasses x = made(2);
        String pending = "1+1*(".repeat(10);
        ran(x, "fold max " + pending + "1+(row=0?1:2*3)" + ")".repeat(10));
        group(x, 0, 2, 0, 10 + 1 + 6);
        ran(x, "fold sum " + pending + "1+1*(1+row)" + ")".repeat(10));
        group(x, 0, 2, 0, 2 * 12 + 1);
    }

    private static void foldFaults() {
        QueryClasses x = made(3);
        fill(x, 0, 7, INFINITE, bits(1), -1L << 52);
        fill(x, 1, 6, 0xFF800000, 0x7F800000, 0);
        fill(x, 2, 7, bits(Double.MAX_VALUE), bits(Double.MAX_VALUE), 0);
        failed(x, "fold sum $0", 2, 5, 3, 0);
        failed(x, "fold mean $0", 2, 5, 3, 0);
        failed(x, "fold sum $1", 1, 5, 3, 0);
        due("apart they are well", ran(x, "fold sum $0 by row"), 3);
        group(x, 2, 1, 2, -1L << 52);
        due("min", ran(x, "fold min $0"), 1);
        group(x, 0, 3, 0, -1L << 52);
        due("a sum may be endless", ran(x, "fold sum $2"), 1);
        group(x, 0, 3, 0, INFINITE);
    }

    private static void undone() {
        QueryClasses x = made(4);
        fill(x, 0, 4, 10, 20, 30, 40);
        fill(x, 1, 4, 1, 1, 0, 1);
        failed(x, "set $0 := $0/$1", 2, 4, 1, 5);
        failed(x, "set $0 := $0+1 where 1/$1=1", 2, 4, 0, 3);
        for (int i = 0; i < 4; i++) {
            due("as before " + i, x.cell(0, i), 10 * (i + 1));
        }
        fill(x, 2, 7, bits(1.5), bits(-0.0), bits(2.5));
        x.share(3, 2);
        failed(x, "set $3 := $2+1", 3, 2, 1, 2);
        due("doubles as before", x.cell(2, 0), bits(1.5));
        due("-0.0 as before", x.cell(2, 1), bits(-0.0));
    }

    private static void actsDone() {
        QueryClasses x = made(3);
        fill(x, 0, 4, 5, 0, 5);
        ran(x, "find $0=5");
        due("acts", x.told(3), 15);
        ran(x, "find $0=5 order row");
        due("acts with order", x.told(3), 15 + 2 * 2);
        ran(x, "find yes or no");
        due("jumps are acts", x.told(3), 3 * 3);
        ran(x, "find no or no");
        due("the other way", x.told(3), 3 * 4);
        ran(x, "fold sum row where $0=5 by row");
        due("of a fold", x.told(3), 15 + 2 * 3);
        ran(x, "find 1/$0=1");
        due("the one that failed is not done", x.told(3), 7 + 3);
        ran(x, "fold count by 1/$0");
        due("nor is it in part 2", x.told(3), 4 + 3);
        x.objects(0);
        ran(x, "find yes");
        due("no objects, no acts", x.told(3), 0);
    }

    private static void latest() {
        QueryClasses x = made(2);
        Check.query(x, "find yes");
        Check.query(x, "fold count");
        Check.query(x, "find 1/0=1");
        x.run(1);
        due("query 1", x.told(5), 1);
        due("groups", x.value(0), 2);
        x.run(0);
        due("query 0", x.told(5), 0);
        due("no groups", x.value(0), LOST);
        x.run(2);
        due("query 2", x.told(5), 2);
        due("zero", x.told(0), 4);
        due("told 6", x.told(6), -2);
        due("told -1", x.told(-1), -2);
        x.run(0);
        x.objects(0);
        x.column(0, 4, 1);
        due("hits stay", x.hit(1), 1);
        Check.tell(x, "find");
        due("clear", x.clear(), 3);
        int[] told = {0, -1, -1, 0, 0, -1};
        for (int what = 0; what < told.length; what++) {
            due("cleared: told " + what, x.told(what), told[what]);
        }
        due("cleared: hit", x.hit(0), -1);
        due("cleared: score", x.score(0), LOST);
        due("cleared: queries", x.count(2), 0);
        due("cleared: columns stay", x.count(1), 1);
        due("cleared: the tape stays", x.count(3), 4);
        due("cleared: run", x.run(0), QueryClasses.BAD);
        due("clear again", x.clear(), 0);
        x.end(0);
        due("numbers from 0 again", Check.query(x, "find yes"), 0);
    }

    private static void sixteen() {
        QueryClasses x = made(16);
        x.column(0, 5, 16);
        hits(x, "set $0 := row*row", 0, 1, 2, 3, 4, 5, 6, 7, 8, 9, 10, 11, 12, 13, 14, 15);
        hits(x, "find yes order $0 down", 15, 14, 13, 12, 11, 10, 9, 8, 7, 6, 5, 4, 3, 2, 1, 0);
        due("score", x.score(0), bits(225));
        failed(x, "find $0[row+1]>=0", 15, 2, 0, 3);
    }
}
