/** An object under test that counts its calls, as nothing is promised of more than 512. */
final class Probe {
    static final int MOST_CALLS = 512;

    private final QueryClasses x = new QueryClasses();
    private int calls;

    private QueryClasses next() {
        calls++;
        if (calls > MOST_CALLS) {
            throw new IllegalStateException("too many calls on one object");
        }
        return x;
    }

    int calls() {
        return calls;
    }

    int objects(int n) {
        return next().objects(n);
    }

    int column(int c, int lane, int n) {
        return next().column(c, lane, n);
    }

    int share(int c, int d) {
        return next().share(c, d);
    }

    int drop(int c) {
        return next().drop(c);
    }

    int put(int c, int i, long v) {
        return next().put(c, i, v);
    }

    long cell(int c, int i) {
        return next().cell(c, i);
    }

    int about(int c, int what) {
        return next().about(c, what);
    }

    int feed(int a, int b, int c, int d, int e) {
        return next().feed(a, b, c, d, e);
    }

    int end(int n) {
        return next().end(n);
    }

    int query() {
        return next().query();
    }

    int fault() {
        return next().fault();
    }

    int acts(int q, int part) {
        return next().acts(q, part);
    }

    int act(int q, int part, int i, int what) {
        return next().act(q, part, i, what);
    }

    int run(int q) {
        return next().run(q);
    }

    int told(int what) {
        return next().told(what);
    }

    int hit(int k) {
        return next().hit(k);
    }

    long score(int k) {
        return next().score(k);
    }

    long value(int k) {
        return next().value(k);
    }

    int count(int what) {
        return next().count(what);
    }

    int clear() {
        return next().clear();
    }

    /** A text on an empty tape, to the byte. */
    Probe text(String text) {
        for (int at = 0; at < text.length(); at += 20) {
            int[] five = Check.packed(text, at);
            feed(five[0], five[1], five[2], five[3], five[4]);
        }
        end(text.length());
        return this;
    }

    int query(String text) {
        return text(text).query();
    }

    /** A new row of a LANE with these BITS. */
    Probe row(int c, int lane, long... cells) {
        column(c, lane, cells.length);
        for (int i = 0; i < cells.length; i++) {
            put(c, i, cells[i]);
        }
        return this;
    }

    /** A text that is the object's only query, and is run. */
    int ran(String text) {
        clear();
        query(text);
        return run(0);
    }
}
