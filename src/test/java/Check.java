/** What the tests share: counting wrong answers, and telling a text to an object. */
final class Check {
    private final String name;
    private int looked;
    private int wrong;

    Check(String name) {
        this.name = name;
    }

    void due(String call, long got, long want) {
        looked++;
        if (got != want) {
            wrong++;
            if (wrong <= 40) {
                System.out.println(name + ": " + call + " answered " + got + ", due is " + want);
            }
        }
    }

    /** Ends the test's run, with 1 if an answer was wrong. */
    void close() {
        System.out.println(name + ": " + looked + " answers, " + wrong + " wrong");
        if (wrong != 0 || looked == 0) {
            System.exit(1);
        }
    }

    boolean isWrong() {
        return wrong != 0;
    }

    /** Lays a text on the tape, to the byte. */
    static void tell(QueryClasses x, String text) {
        int before = x.count(3);
        for (int at = 0; at < text.length(); at += 20) {
            int[] n = packed(text, at);
            if (x.feed(n[0], n[1], n[2], n[3], n[4]) == QueryClasses.FULL) {
                throw new IllegalArgumentException("no room for: " + text);
            }
        }
        x.end(before + text.length());
    }

    /** Twenty bytes from a place on, blanks behind the end. */
    static int[] packed(String text, int at) {
        int[] five = new int[5];
        for (int i = 0; i < 20; i++) {
            int b = at + i < text.length() ? text.charAt(at + i) : ' ';
            five[i / 4] = five[i / 4] << 8 | b;
        }
        return five;
    }

    static int query(QueryClasses x, String text) {
        tell(x, text);
        return x.query();
    }
}
