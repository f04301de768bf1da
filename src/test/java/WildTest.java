import java.util.Random;

/** 512 calls on each object with any numbers at all, held against PlainModel: nothing throws. */
public final class WildTest {
    private static final int[] EDGES = {Integer.MIN_VALUE, Integer.MAX_VALUE, -1, 0, 1, 2, 3, 7, 8, 9, 10, 11, 12, 13, 15, 16,
        17, 20, 24, 199, 200, 201, 380, 381, 399, 400, 401};
    private static final String[] TEXTS = {"find yes", "find $0=1 or $1 order $2 down first 3", "fold count by row",
        "fold sum $4 where $1", "set $3 := $4+1", "set $2 := $2/$5 where row>0", "fold mean $6%$7", "find $4[$4[row]]>0",
        "fold max $9 by $8&3", "set $0 := not $0", "find 1/", "fold", "find " + "(".repeat(13), "fold min $7 by row/2"};

    private final Check check = new Check("WildTest");
    private final Random random = new Random(512);
    private QueryClasses x;
    private PlainModel m;

    public static void main(String[] args) {
        WildTest t = new WildTest();
        for (int i = 0; i < 1500 && !t.check.isWrong(); i++) {
            t.x = new QueryClasses();
            t.m = new PlainModel();
            for (int c = 0; c < 512; c++) {
                t.call();
            }
        }
        t.check.close();
    }

    private int any() {
        switch (random.nextInt(4)) {
            case 0:
                return EDGES[random.nextInt(EDGES.length)];
            case 1:
                return random.nextInt();
            default:
                return random.nextInt(10);
        }
    }

    private void due(String call, long got, long want) {
        check.due(call, got, want);
    }

    private void call() {
        int a = any();
        int b = any();
        int c = any();
        switch (random.nextInt(26)) {
            case 0: due("objects " + a, x.objects(a), m.objects(a)); break;
            case 1:
            case 2: due("column", x.column(a, b, c), m.column(a, b, c)); break;
            case 3: due("share", x.share(a, b), m.share(a, b)); break;
            case 4: due("drop", x.drop(a), m.drop(a)); break;
            case 5: put(a, b); break;
            case 6: due("cell", x.cell(a, b), m.cell(a, b)); break;
            case 7: due("about", x.about(a, b), m.about(a, b)); break;
            case 8: feed(a, b, c); break;
            case 9: due("end", x.end(a), m.end(a)); break;
            case 10: due("query", x.query(), m.query()); break;
            case 11: due("fault", x.fault(), m.fault); break;
            case 12: due("acts", x.acts(a, b), m.acts(a, b)); break;
            case 13:
                int what = any();
                due("act", x.act(a, b, c, what), m.act(a, b, c, what));
                break;
            case 14:
            case 15: due("run " + a, x.run(a), m.run(a)); break;
            case 16: due("told", x.told(a), m.told(a)); break;
            case 17: due("hit", x.hit(a), m.hit(a)); break;
            case 18: due("score", x.score(a), m.score(a)); break;
            case 19: due("value", x.value(a), m.value(a)); break;
            case 20: due("count", x.count(a), m.count(a)); break;
            case 21:
                if (random.nextInt(8) == 0) {
                    due("clear", x.clear(), m.clear());
                }
                break;
            default: text();
        }
    }

    private void put(int c, int i) {
        long v = random.nextInt(3) == 0 ? random.nextInt(5) : random.nextLong();
        due("put", x.put(c, i, v), m.put(c, i, v));
    }

    private void feed(int a, int b, int c) {
        due("feed", x.feed(a, b, c, a, b), m.feed(a, b, c, a, b));
    }

    private void text() {
        String text = TEXTS[random.nextInt(TEXTS.length)];
        due("end 0", x.end(0), m.end(0));
        for (int at = 0; at < text.length(); at += 20) {
            int[] five = Check.packed(text, at);
            due("feed", x.feed(five[0], five[1], five[2], five[3], five[4]),
                m.feed(five[0], five[1], five[2], five[3], five[4]));
        }
        due("query of '" + text + "'", x.query(), m.query());
    }
}
