import java.util.ArrayList;
import java.util.HashMap;
import java.util.LinkedHashSet;
import java.util.List;
import java.util.Map;
import java.util.Random;
import java.util.Set;

/**
 * FAULT 2 by the document's grammar as it stands: a TOKEN cannot stand where no text that the grammar
 * makes has it behind those before. Earley's way finds that without a reading order of its own.
 */
public final class GrammarTest {
    private static final Check CHECK = new Check("GrammarTest");
    private static final String END = "";
    private static final Map<String, List<String[]>> RULES = new HashMap<>();
    private static final Random RANDOM = new Random(15);
    private static final int[] FOUND = new int[7];
    private static final int TEXTS = 8000;

    static {
        rule("query", "find or order first", "fold how where by", "set $ := sum where");
        rule("order", "", "order! sum", "order! sum down");
        rule("first", "", "first! 1");
        rule("where", "", "where! or");
        rule("by", "", "by! sum");
        rule("how", "count", "sum! sum", "min sum", "max sum", "mean sum");
        rule("sum", "or", "or ? sum : sum");
        rule("or", "and", "or or! and");
        rule("and", "not", "and and! not");
        rule("not", "not! not", "test");
        rule("test", "mix", "mix = mix", "mix != mix", "mix < mix", "mix > mix", "mix <= mix", "mix >= mix");
        rule("mix", "shift", "mix & shift", "mix | shift", "mix ^ shift");
        rule("shift", "plus", "shift << plus", "shift >> plus", "shift >>> plus");
        rule("plus", "times", "plus + times", "plus - times");
        rule("times", "sign", "times * sign", "times / sign", "times % sign");
        rule("sign", "- sign", "~ sign", "part");
        rule("part", "1", "1.5", "row", "yes", "no", "$", "$ [ sum ]", "one ( sum )", "two ( sum , sum )", "( sum )");
        rule("one", "abs", "floor", "ceil", "rint", "sign!", "byte", "short", "char", "int", "long", "float", "double");
        rule("two", "min", "max");
    }

    /** A rule's name and a TOKEN may be the same word: the TOKEN has a ! behind it there. */
    private static void rule(String name, String... ways) {
        List<String[]> all = new ArrayList<>();
        for (String way : ways) {
            all.add(way.isEmpty() ? new String[0] : way.split(" "));
        }
        RULES.put(name, all);
    }

    /** A rule's way, how far it has come, and at which TOKEN it began. */
    private record Item(String name, String[] way, int at, int from) {
        String next() {
            return at < way.length ? way[at] : null;
        }

        Item on() {
            return new Item(name, way, at + 1, from);
        }
    }

    public static void main(String[] args) {
        List<String> words = tokens();
        for (int i = 0; i < TEXTS; i++) {
            List<String> text = new ArrayList<>();
            grow("query", text, 0);
            for (int changes = RANDOM.nextInt(3); changes > 0; changes--) {
                change(text, words);
            }
            look(text);
        }
        for (String first : words) {
            for (String second : words) {
                look(List.of("find", "yes", first, second));
                look(List.of("fold", "sum", first, second, "1"));
                look(List.of("set", "$0", ":=", "1", first, second, "1"));
                look(List.of(first, second));
            }
        }
        System.out.println("FAULTS 0 to 6: " + java.util.Arrays.toString(FOUND));
        CHECK.due("texts without a FAULT are many", FOUND[0] > 500 ? 1 : 0, 1);
        CHECK.due("texts with FAULT 2 are many", FOUND[2] > 5000 ? 1 : 0, 1);
        CHECK.close();
    }

    private static List<String> tokens() {
        Set<String> all = new LinkedHashSet<>();
        for (List<String[]> ways : RULES.values()) {
            for (String[] way : ways) {
                for (String one : way) {
                    if (!RULES.containsKey(one)) {
                        all.add(written(one));
                    }
                }
            }
        }
        all.add("foo");
        return new ArrayList<>(all);
    }

    private static String written(String token) {
        String bare = token.endsWith("!") && token.length() > 2 ? token.substring(0, token.length() - 1) : token;
        return bare.equals("$") ? "$" + RANDOM.nextInt(4) : bare;
    }

    /** A text by the rules; the deeper, the shorter are its ways. */
    private static void grow(String name, List<String> text, int depth) {
        List<String[]> ways = RULES.get(name);
        if (ways == null) {
            text.add(written(name));
            return;
        }
        boolean plain = depth > 30 || RANDOM.nextInt(3) > 0 && !name.equals("part") && !name.equals("query");
        String[] way = ways.get(plain ? 0 : RANDOM.nextInt(ways.size()));
        if (plain && name.equals("not")) {
            way = ways.get(1);
        } else if (plain && name.equals("sign")) {
            way = ways.get(2);
        }
        for (String one : way) {
            grow(one, text, depth + 1);
        }
    }

    private static void change(List<String> text, List<String> words) {
        int at = RANDOM.nextInt(text.size());
        String word = words.get(RANDOM.nextInt(words.size()));
        switch (RANDOM.nextInt(4)) {
            case 0:
                if (text.size() > 1) {
                    text.remove(at);
                }
                break;
            case 1:
                text.add(at, word);
                break;
            case 2:
                text.set(at, word);
                break;
            default:
                text.add(at, text.get(RANDOM.nextInt(text.size())));
        }
    }

    private static void look(List<String> tokens) {
        StringBuilder text = new StringBuilder();
        int[] places = new int[tokens.size() + 1];
        for (int i = 0; i < tokens.size(); i++) {
            places[i] = text.length();
            text.append(tokens.get(i)).append(' ');
        }
        places[tokens.size()] = text.length();
        if (text.length() > 400) {
            return;
        }
        QueryClasses x = new QueryClasses();
        int[] lanes = {0, 4, 5, 7};
        for (int c = 0; c < lanes.length; c++) {
            x.column(c, lanes[c], 1);
        }
        int answer = Check.query(x, text.toString());
        int stuck = stuckAt(tokens);
        FOUND[x.fault()]++;
        if (x.fault() == 0 || x.fault() == 2) {
            int place = stuck < 0 ? 0 : -10 - places[stuck];
            CHECK.due(text + ": FAULT " + x.fault(), answer, place);
        } else if (stuck >= 0) {
            // The other FAULT was met with all before it taken, and one TOKEN more read at most.
            CHECK.due(text + ": FAULT " + x.fault() + " comes first", -10 - answer <= places[stuck] ? 1 : 0, 1);
        }
    }

    /** The first TOKEN that cannot stand where it does; how many there are, if it is the end; -1: none. */
    private static int stuckAt(List<String> tokens) {
        List<Set<Item>> sets = new ArrayList<>();
        Set<Item> first = new LinkedHashSet<>();
        predict("query", 0, first);
        sets.add(first);
        for (int i = 0; i <= tokens.size(); i++) {
            close(sets, i);
            String token = i < tokens.size() ? kind(tokens.get(i)) : END;
            Set<Item> on = new LinkedHashSet<>();
            boolean ends = false;
            for (Item item : sets.get(i)) {
                String next = item.next();
                ends |= next == null && item.name.equals("query") && item.from == 0;
                if (next != null && !RULES.containsKey(next) && (next.equals(token) || next.equals(token + "!"))) {
                    on.add(item.on());
                }
            }
            if (token.equals(END)) {
                return ends ? -1 : i;
            }
            if (on.isEmpty()) {
                return i;
            }
            sets.add(on);
        }
        return -1;
    }

    private static String kind(String token) {
        return token.startsWith("$") ? "$" : token;
    }

    private static void predict(String name, int at, Set<Item> into) {
        for (String[] way : RULES.get(name)) {
            into.add(new Item(name, way, 0, at));
        }
    }

    private static void close(List<Set<Item>> sets, int at) {
        Set<Item> all = sets.get(at);
        int before = -1;
        while (before != all.size()) {
            before = all.size();
            for (Item item : new ArrayList<>(all)) {
                if (item.next() == null) {
                    for (Item over : new ArrayList<>(sets.get(item.from))) {
                        if (item.name.equals(over.next())) {
                            all.add(over.on());
                        }
                    }
                } else if (RULES.containsKey(item.next())) {
                    predict(item.next(), at, all);
                }
            }
        }
    }
}
