import java.io.IOException;
import java.io.UncheckedIOException;
import java.nio.file.Files;
import java.nio.file.Path;
import java.util.ArrayList;
import java.util.LinkedHashMap;
import java.util.LinkedHashSet;
import java.util.List;
import java.util.Map;
import java.util.Set;
import java.util.function.Supplier;

/**
 * What the tests of boundaries share. Each test is of one sentence and named by its words, which must
 * stand in ../shared/DOC.md; what is wrong is told with them.
 */
abstract class Edges {
    static final int BAD = QueryClasses.BAD, FULL = QueryClasses.FULL, NO = QueryClasses.NO, NONE = QueryClasses.NONE;
    /** What BAD is for about, act and told. */
    static final int BAD2 = -2;
    static final int MIN = Integer.MIN_VALUE, MAX = Integer.MAX_VALUE;
    static final long LOST = Long.MIN_VALUE;
    static final double INFINITE = Double.POSITIVE_INFINITY;

    private final String document = document();
    private final Set<String> named = new LinkedHashSet<>();
    private final Set<String> broken = new LinkedHashSet<>();
    private final List<String> wrong = new ArrayList<>();
    private String sentence = "";
    private int answers;
    private int allAnswers;

    /** Calls test for each sentence. */
    abstract void sentences();

    private static String document() {
        try {
            String text = Files.readString(Path.of("../shared/DOC.md")).replaceAll("\\s+", " ");
            return text.replace("&lt;", "<").replace("&gt;", ">").replace("&#124;", "|").replace("&amp;", "&");
        } catch (IOException e) {
            throw new UncheckedIOException(e);
        }
    }

    final void test(String words, Runnable looks) {
        if (!document.contains(words) || !named.add(words)) {
            throw new IllegalStateException("not in the document, or tested twice: " + words);
        }
        sentence = words;
        answers = 0;
        try {
            looks.run();
        } catch (RuntimeException e) {
            isWrong("threw " + e);
        }
        if (answers == 0) {
            isWrong("no answer was looked at");
        }
        allAnswers += answers;
    }

    private void isWrong(String what) {
        broken.add(sentence);
        wrong.add("\"" + sentence + "\": " + what);
    }

    final void due(String call, long got, long want) {
        answers++;
        if (got != want) {
            isWrong(call + " answered " + got + ", due is " + want);
        }
    }

    final void dueText(String what, String got, String want) {
        answers++;
        if (!got.equals(want)) {
            isWrong(what + " is '" + got + "', due is '" + want + "'");
        }
    }

    /** The sentences that were tested; for Mutants. */
    final Set<String> named() {
        return named;
    }

    /** Those of them that do not hold; for Mutants. */
    final Set<String> broken() {
        return broken;
    }

    /** Ends the test's run, with 1 if a sentence does not hold. */
    final void close() {
        sentences();
        String name = getClass().getSimpleName();
        for (int i = 0; i < wrong.size() && i < 40; i++) {
            System.out.println(name + ": " + wrong.get(i));
        }
        System.out.println(name + ": " + named.size() + " sentences, " + allAnswers + " answers, " + broken.size()
            + " sentences do not hold");
        if (!broken.isEmpty() || named.isEmpty()) {
            System.exit(1);
        }
    }

    /** Numbers that are too small and too great: the least, the last ones outside, the greatest. */
    static int[] outside(int least, int most) {
        return new int[] {MIN, least - 1, most + 1, MAX};
    }

    static long bits(double d) {
        return Double.doubleToRawLongBits(d);
    }

    static long bits(float f) {
        return Float.floatToRawIntBits(f);
    }

    /** The states that each promise is looked at in. */
    static Map<String, Supplier<Probe>> states() {
        Map<String, Supplier<Probe>> all = new LinkedHashMap<>();
        all.put("new", Probe::new);
        all.put("full", Edges::full);
        all.put("failed", Edges::failed);
        all.put("cleared", Edges::cleared);
        return all;
    }

    /** All is full: 16 OBJECTS, ten rows of 16 CELLS, twelve queries, 16 HITS, 400 bytes. */
    static Probe full() {
        Probe x = new Probe();
        x.objects(16);
        for (int c = 0; c < 10; c++) {
            x.column(c, c < 8 ? c : 4, 16);
            x.put(c, 15, 1);
        }
        for (int q = 0; q < 12; q++) {
            x.query("find row<" + (q + 5));
        }
        x.run(11);
        return x.text("find $4[15]=" + " ".repeat(387) + "1");
    }

    /** The latest RUN failed at OBJECT 1, with ZERO, when it had set CELL 0 of COLUMN 0. */
    static Probe failed() {
        Probe x = new Probe();
        x.objects(3);
        x.row(0, 4, 5, 0, 7);
        x.row(1, 7, bits(1.5), bits(-0.0));
        x.query("find $0>0");
        x.query("set $0 := 6/$0");
        x.run(0);
        x.run(1);
        return x.text("find yes");
    }

    static Probe cleared() {
        Probe x = full();
        x.clear();
        return x;
    }

    /** All that an object tells of itself; at last its tape, which is read for that. */
    static String view(Probe x) {
        StringBuilder s = new StringBuilder("fault " + x.fault());
        for (int what = 0; what < 6; what++) {
            s.append(" told ").append(x.told(what));
        }
        int hit = x.hit(0);
        for (int k = 0; hit != BAD; k++) {
            s.append(" hit ").append(hit).append(' ').append(x.score(k)).append(' ').append(x.value(k));
            hit = x.hit(k + 1);
        }
        for (int c = 0; c < 10; c++) {
            int size = x.about(c, 1);
            s.append("\ncolumn ").append(x.about(c, 0)).append(' ').append(size).append(' ').append(x.about(c, 2));
            for (int i = 0; i < size; i++) {
                s.append(' ').append(x.cell(c, i));
            }
        }
        s.append("\ncounts");
        for (int what = 0; what < 4; what++) {
            s.append(' ').append(x.count(what));
        }
        for (int q = 0; x.acts(q, 0) != BAD; q++) {
            s.append("\nquery ").append(listing(x, q, 0)).append('/').append(listing(x, q, 1)).append('/')
                .append(listing(x, q, 2));
        }
        x.clear();
        return s.append("\ntape ").append(x.query()).append(' ').append(x.fault()).append(listing(x, 0, 0)).toString();
    }

    /** The ACTS of a PART: their ops, those that have a number with it. */
    static String listing(Probe x, int q, int part) {
        StringBuilder s = new StringBuilder();
        int acts = x.acts(q, part);
        for (int i = 0; i < acts; i++) {
            int op = x.act(q, part, i, 0);
            boolean has = op == 1 || op == 2 || op >= 10 && op < 30 || op >= 1800 && op <= 1802;
            s.append(i == 0 ? "" : " ").append(op);
            int number = x.act(q, part, i, 1);
            if (has || number != 0) {
                s.append(':').append(number);
            }
        }
        return s.toString();
    }

    /** COLUMNS 0 to 7 are of those LANES, with four CELLS; 8 and 9 are MISSING. */
    static Probe lanes() {
        Probe x = new Probe();
        for (int lane = 0; lane < 8; lane++) {
            x.column(lane, lane, 4);
        }
        return x;
    }

    final void faulty(String text, int fault, int place) {
        Probe x = lanes();
        due("query of '" + text + "'", x.query(text), -10 - place);
        due("fault of '" + text + "'", x.fault(), fault);
    }

    final void good(String text) {
        Probe x = lanes();
        due("query of '" + text + "'", x.query(text), 0);
        due("fault of '" + text + "'", x.fault(), 0);
    }

    /** The ACTS of PARTS 0 to 2. */
    final void code(String text, String... parts) {
        Probe x = lanes();
        due("query of '" + text + "'", x.query(text), 0);
        for (int part = 0; part < 3; part++) {
            dueText("part " + part + " of '" + text + "'", listing(x, 0, part), part < parts.length ? parts[part] : "");
        }
    }

    /** The ACTS of a sum, by way of a fold that leaves its KIND. */
    final void sum(String text, String acts) {
        code("fold max " + text, "", acts);
    }

    /** The ACTS of a sum that is a truth. */
    final void truth(String text, String acts) {
        code("find " + text, acts);
    }
}
