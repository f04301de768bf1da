/** Promises 9 to 12 as far as THE TAPE goes: its bytes, its end, what query does to it. */
public final class TapeTest {
    private static final Check CHECK = new Check("TapeTest");

    public static void main(String[] args) {
        feeding();
        ending();
        staleBytes();
        asking();
        twelve();
        CHECK.close();
    }

    private static void due(String call, long got, long want) {
        CHECK.due(call, got, want);
    }

    private static void feeding() {
        QueryClasses x = new QueryClasses();
        for (int i = 1; i <= 20; i++) {
            due("feed", x.feed(0x66696E64, 0x20796573, 0x20202020, 0x20202020, 0x0A202020), 20 * i);
        }
        due("feed a full one", x.feed(0, 0, 0, 0, 0), QueryClasses.FULL);
        due("it stays", x.count(3), 400);
        due("end 381", x.end(381), 1);
        due("feed to 401", x.feed(0, 0, 0, 0, 0), QueryClasses.FULL);
        due("end 380", x.end(380), 1);
        due("feed to 400", x.feed(-1, -1, -1, -1, -1), 400);
        due("highest first", second("find yes"), 0);
        x.end(0);
        x.feed(0x73657966, 0, 0, 0, 0);
        x.end(4);
        due("in order: 'seyf'", x.query(), -10);
        due("is a WORD", x.fault(), 2);
        x.feed(0x66696E64, 0x20FF2020, 0, 0, 0);
        due("byte 255", x.query(), -15);
        due("is no TOKEN", x.fault(), 1);
        x.feed(0x66696E64, 0x00207965, 0x73000000, 0, 0);
        due("byte 0", x.query(), -14);
        due("is no TOKEN, no blank", x.fault(), 1);
    }

    private static int second(String text) {
        QueryClasses x = new QueryClasses();
        return Check.query(x, text);
    }

    private static void ending() {
        QueryClasses x = new QueryClasses();
        due("end 0 of none", x.end(0), 1);
        due("end 1 of none", x.end(1), QueryClasses.BAD);
        Check.tell(x, "find yes or no");
        due("bytes", x.count(3), 14);
        due("end -1", x.end(-1), QueryClasses.BAD);
        due("end 15", x.end(15), QueryClasses.BAD);
        due("end 14", x.end(14), 1);
        due("end 8", x.end(8), 1);
        due("bytes then", x.count(3), 8);
        due("cut bytes do not come back", x.query(), 0);
        due("its acts", x.acts(0, 0), 1);
    }

    /** What was cut off, or told before, is never read. */
    private static void staleBytes() {
        QueryClasses x = new QueryClasses();
        Check.tell(x, "find 1>>>1=1");
        x.end(8);
        due("cut within a SIGN", x.query(), -18);
        due("the end", x.fault(), 2);
        Check.tell(x, "find 1=12345");
        x.end(8);
        due("cut within a NUMBER", x.query(), 0);
        due("it is 1", x.act(0, 0, 1, 1), 1);
        Check.tell(x, "find yes or no");
        x.end(10);
        due("cut within a WORD", x.query(), -19);
        due("another one", x.fault(), 2);
        Check.tell(x, "find $0");
        x.end(6);
        due("cut within a COLUMN", x.query(), -15);
        due("no TOKEN", x.fault(), 1);
        Check.tell(x, "find 1=1.5");
        x.end(9);
        due("cut within a REAL", x.query(), -18);
        due("no TOKEN again", x.fault(), 1);
    }

    private static void asking() {
        QueryClasses x = new QueryClasses();
        due("no text", x.query(), -10);
        due("its fault", x.fault(), 2);
        Check.tell(x, "find $0");
        due("faulty", x.query(), -15);
        due("fault 5", x.fault(), 5);
        due("the tape is empty then", x.count(3), 0);
        due("no query", x.count(2), 0);
        Check.tell(x, "find yes");
        due("a query", x.query(), 0);
        due("no fault", x.fault(), 0);
        due("the tape is empty again", x.count(3), 0);
        due("one query", x.count(2), 1);
        StringBuilder s = new StringBuilder("find yes");
        while (s.length() < 400) {
            s.append(s.length() % 2 == 0 ? ' ' : '\n');
        }
        due("400 bytes", Check.query(x, s.toString()), 1);
        s.setCharAt(399, '?');
        due("400 bytes, the last wrong", Check.query(x, s.toString()), -10 - 399);
    }

    private static void twelve() {
        QueryClasses x = new QueryClasses();
        for (int i = 0; i < 12; i++) {
            due("query " + i, Check.query(x, "find row=" + i), i);
        }
        Check.query(x, "");
        Check.tell(x, "find @");
        due("the 13th", x.query(), QueryClasses.FULL);
        due("the tape stays", x.count(3), 6);
        due("the fault stays", x.fault(), 0);
        due("twelve", x.count(2), 12);
        due("query 11 is itself", x.act(11, 0, 1, 1), 11);
        due("clear", x.clear(), 12);
        due("the tape stays when cleared", x.query(), -15);
        due("fault 1", x.fault(), 1);
    }
}
