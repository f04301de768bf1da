/** Promises 1 to 8 and 20: a new object, OBJECTS, COLUMNS, CELLS, counts. */
public final class StateTest {
    private static final Check CHECK = new Check("StateTest");
    private static final long LOST = Long.MIN_VALUE;

    public static void main(String[] args) {
        newObject();
        objects();
        columns();
        sharing();
        dropping();
        putting();
        putsOnMissing();
        putsNoNumbers();
        cellsOfReals();
        counting();
        CHECK.close();
    }

    private static void due(String call, long got, long want) {
        CHECK.due(call, got, want);
    }

    private static void newObject() {
        QueryClasses x = new QueryClasses();
        for (int what = 0; what <= 3; what++) {
            due("new: count " + what, x.count(what), 0);
        }
        for (int c = 0; c < 10; c++) {
            due("new: about(c, 0)", x.about(c, 0), QueryClasses.NONE);
            due("new: about(c, 1)", x.about(c, 1), QueryClasses.NONE);
            due("new: about(c, 2)", x.about(c, 2), 0);
            due("new: cell", x.cell(c, 0), LOST);
        }
        due("new: fault", x.fault(), 0);
        int[] told = {0, -1, -1, 0, 0, -1};
        for (int what = 0; what < told.length; what++) {
            due("new: told " + what, x.told(what), told[what]);
        }
        due("new: hit", x.hit(0), -1);
        due("new: score", x.score(0), LOST);
        due("new: value", x.value(0), LOST);
        due("new: clear", x.clear(), 0);
    }

    private static void objects() {
        QueryClasses x = new QueryClasses();
        due("objects 16", x.objects(16), 0);
        due("objects 17", x.objects(17), QueryClasses.BAD);
        due("objects -1", x.objects(-1), QueryClasses.BAD);
        due("objects 0", x.objects(0), 16);
        due("objects 5", x.objects(5), 0);
        due("objects 5 again", x.objects(5), 5);
    }

    private static void columns() {
        QueryClasses x = new QueryClasses();
        for (int lane = 0; lane < 8; lane++) {
            due("column", x.column(lane, lane, 2 * lane + 2), 1);
            due("its lane", x.about(lane, 0), lane);
            due("its cells", x.about(lane, 1), 2 * lane + 2);
            due("a first cell", x.cell(lane, 2 * lane + 1), 0);
            due("behind the last", x.cell(lane, 2 * lane + 2), LOST);
        }
        due("no cells", x.column(9, 4, 0), 1);
        due("no cells: how many", x.about(9, 1), 0);
        due("no cells: cell", x.cell(9, 0), LOST);
        int[][] bad = {{-1, 4, 3}, {10, 4, 3}, {0, -1, 3}, {0, 8, 3}, {0, 4, -1}, {0, 4, 17}};
        for (int[] b : bad) {
            due("bad column", x.column(b[0], b[1], b[2]), QueryClasses.BAD);
        }
        due("bad ones change nothing", x.about(0, 0) * 100 + x.about(0, 1), 2);
        x.column(3, 4, 16);
        x.put(3, 15, 77);
        due("cell 15", x.cell(3, 15), 77);
        x.column(3, 4, 16);
        due("a new row is all 0", x.cell(3, 15), 0);
        due("about what 3", x.about(0, 3), -2);
        due("about what -1", x.about(0, -1), -2);
        due("about column 10", x.about(10, 0), -2);
        due("about column -1", x.about(-1, 0), -2);
    }

    private static void sharing() {
        QueryClasses x = new QueryClasses();
        x.column(7, 4, 3);
        due("share", x.share(2, 7), 1);
        due("least of 7", x.about(7, 2), 2);
        due("least of 2", x.about(2, 2), 2);
        x.put(2, 1, 9);
        due("one row", x.cell(7, 1), 9);
        x.column(2, 5, 1);
        due("a new row for 2 alone", x.cell(7, 1), 9);
        due("7 is its own again", x.about(7, 2), 7);
        due("share with a missing one", x.share(7, 0), 1);
        due("7 is missing", x.about(7, 0), -1);
        due("least missing one", x.about(7, 2), 0);
        due("share with itself", x.share(2, 2), 1);
        due("itself", x.about(2, 0), 5);
        due("share bad c", x.share(10, 2), QueryClasses.BAD);
        due("share bad d", x.share(2, -1), QueryClasses.BAD);
        for (int c = 0; c < 10; c++) {
            x.column(c, 4, 1);
            x.put(c, 0, c + 50);
        }
        for (int round = 0; round < 30; round++) {
            x.share(round % 10, (round * 7 + 3) % 10);
            x.column((round * 3) % 10, 4, 1);
            due("a new row is nobody else's", x.about((round * 3) % 10, 2), (round * 3) % 10);
            due("and 0", x.cell((round * 3) % 10, 0), 0);
            x.put((round * 3) % 10, 0, 100 + round);
        }
    }

    private static void dropping() {
        QueryClasses x = new QueryClasses();
        due("drop a missing one", x.drop(4), 0);
        x.column(4, 1, 1);
        x.share(5, 4);
        x.put(4, 0, 3);
        due("drop", x.drop(4), 1);
        due("drop again", x.drop(4), 0);
        due("the other stays", x.cell(5, 0), 3);
        due("drop 10", x.drop(10), QueryClasses.BAD);
        due("drop -1", x.drop(-1), QueryClasses.BAD);
    }

    private static void putting() {
        QueryClasses x = new QueryClasses();
        long v = 0x123456789ABCDEF0L;
        long[] kept = {1, (byte) v, (short) v, (char) v, (int) v, v, (int) v, v};
        for (int lane = 0; lane < 8; lane++) {
            x.column(lane, lane, 2);
            due("put", x.put(lane, 1, v), 1);
            due("lowest bits of lane " + lane, x.cell(lane, 1), kept[lane]);
            due("its neighbour", x.cell(lane, 0), 0);
        }
        x.put(0, 1, 2L << 40);
        due("a truth of high bits", x.cell(0, 1), 1);
        x.put(0, 1, 0);
        due("no truth", x.cell(0, 1), 0);
        x.put(3, 0, -1);
        due("a char is not below 0", x.cell(3, 0), 65535);
        due("put behind the end", x.put(4, 2, 1), QueryClasses.BAD);
        due("put before 0", x.put(4, -1, 1), QueryClasses.BAD);
        due("put column 10", x.put(10, 0, 1), QueryClasses.BAD);
        due("put column -1", x.put(-1, 0, 1), QueryClasses.BAD);
        due("cell column 10", x.cell(10, 0), LOST);
        due("cell -1", x.cell(0, -1), LOST);
        due("cell missing", x.cell(8, 0), LOST);
    }

    /** Some 400 calls for each number, on an object of its own: nothing is told of more than 512. */
    private static void putsOnMissing() {
        for (int i : new int[] {Integer.MIN_VALUE, -17, -1, 0, 1, 2, 15, 16, 17, 400, Integer.MAX_VALUE}) {
            QueryClasses x = new QueryClasses();
            hasNoCells(x, 0, 9, i);
            for (int lane = 0; lane < 8; lane++) {
                x.column(lane, lane, 2);
            }
            hasNoCells(x, 8, 9, i);
            due("put on a missing one makes none", x.count(1), 8);
            for (int lane = 0; lane < 8; lane++) {
                due("a row of two cells, put " + i, x.put(lane, i, 1), i == 0 || i == 1 ? 1 : QueryClasses.BAD);
            }
            x.drop(5);
            hasNoCells(x, 5, 5, i);
            x.share(7, 9);
            hasNoCells(x, 7, 7, i);
            x.column(5, 4, 0);
            due("a row without cells, put " + i, x.put(5, i, 1), QueryClasses.BAD);
        }
    }

    /** Whatever the BITS: MISSING COLUMNS answer NO, and a number of no COLUMN is BAD ahead of that. */
    private static void hasNoCells(QueryClasses x, int from, int to, int i) {
        for (long v : new long[] {0, 1, -1, 0x7FC00000, 0x7FF8000000000000L, LOST}) {
            for (int c = from; c <= to; c++) {
                due("put missing " + c + " " + i, x.put(c, i, v), QueryClasses.NO);
                due("still missing " + c, x.about(c, 0), QueryClasses.NONE);
                due("cell missing " + c + " " + i, x.cell(c, i), LOST);
            }
            for (int c : new int[] {-1, 10, Integer.MIN_VALUE, Integer.MAX_VALUE}) {
                due("put no column " + c + " " + i, x.put(c, i, v), QueryClasses.BAD);
            }
        }
    }

    private static void putsNoNumbers() {
        QueryClasses x = new QueryClasses();
        x.column(6, 6, 1);
        x.column(7, 7, 1);
        x.put(6, 0, 0x40400000);
        x.put(7, 0, 0x4008000000000000L);
        int[] floats = {0x7FC00000, 0x7F800001, 0xFFC00000, 0xFFFFFFFF};
        for (int f : floats) {
            due("no float", x.put(6, 0, f), QueryClasses.BAD);
            due("no float, high bits", x.put(6, 0, f & 0xFFFFFFFFL), QueryClasses.BAD);
        }
        long[] doubles = {0x7FF8000000000000L, 0x7FF0000000000001L, 0xFFF8000000000000L, -1L};
        for (long d : doubles) {
            due("no double", x.put(7, 0, d), QueryClasses.BAD);
        }
        due("float stays", x.cell(6, 0), 0x40400000);
        due("double stays", x.cell(7, 0), 0x4008000000000000L);
    }

    private static void cellsOfReals() {
        QueryClasses x = new QueryClasses();
        x.column(6, 6, 1);
        x.column(7, 7, 1);
        java.util.Random random = new java.util.Random(1);
        double[] some = {0.0, -0.0, 1.0, -1.0, Double.MAX_VALUE, Double.MIN_VALUE, -Double.MIN_VALUE, 2.2250738585072014E-308,
            2.225073858507201E-308, Double.POSITIVE_INFINITY, Double.NEGATIVE_INFINITY};
        for (double d : some) {
            realThere(x, Double.doubleToRawLongBits(d));
            realThere(x, Float.floatToRawIntBits((float) d));
        }
        realThere(x, Float.floatToRawIntBits(Float.MIN_VALUE));
        realThere(x, Float.floatToRawIntBits(-Float.MIN_NORMAL));
        for (int i = 0; i < 20000; i++) {
            realThere(x, random.nextLong());
        }
        for (int e = 0; e < 2048; e++) {
            realThere(x, (long) e << 52);
            realThere(x, (long) e << 52 | 1L << 63 | 0xFFFFFFFFFFFFFL);
            realThere(x, (long) e << 23 | 0x7FFFFF);
        }
    }

    private static void realThere(QueryClasses x, long bits) {
        boolean isDouble = !Double.isNaN(Double.longBitsToDouble(bits));
        boolean isFloat = !Float.isNaN(Float.intBitsToFloat((int) bits));
        due("put double", x.put(7, 0, bits), isDouble ? 1 : -1);
        due("put float", x.put(6, 0, bits), isFloat ? 1 : -1);
        if (isDouble) {
            due("double " + bits, x.cell(7, 0), bits);
        }
        if (isFloat) {
            due("float " + bits, x.cell(6, 0), (int) bits);
        }
    }

    private static void counting() {
        QueryClasses x = new QueryClasses();
        x.objects(7);
        x.column(0, 4, 1);
        x.share(9, 0);
        Check.query(x, "find yes");
        Check.tell(x, "fin");
        due("count objects", x.count(0), 7);
        due("count columns", x.count(1), 2);
        due("count queries", x.count(2), 1);
        due("count bytes", x.count(3), 3);
        due("count 4", x.count(4), QueryClasses.BAD);
        due("count -1", x.count(-1), QueryClasses.BAD);
    }
}
