import java.lang.reflect.Method;
import java.nio.file.Files;
import java.nio.file.Path;
import java.util.ArrayList;
import java.util.List;
import java.util.Map;
import java.util.Set;
import java.util.TreeSet;
import java.util.regex.Matcher;
import java.util.regex.Pattern;

/** Makes the calls that README.md shows, one after the other; each must answer what stands behind it. */
public final class ReadmeTest {
    private static final Check CHECK = new Check("ReadmeTest");
    private static final Path README = Path.of("README.md");
    private static final Path TESTS = Path.of("src/test/java");
    private static final String MAKING = "QueryClasses x = new QueryClasses();";
    private static final Pattern CALL = Pattern.compile("x\\.(\\w+)\\(([^()]*)\\); +// (-?\\w+)(:.*)?");
    private static final Pattern TOLD = Pattern.compile("tell\\(x, \"([^\"]*)\"\\); +// (-?\\w+)(:.*)?");
    private static final Map<String, Long> NAMED = Map.of("NONE", (long) QueryClasses.NONE, "BAD", (long) QueryClasses.BAD,
        "FULL", (long) QueryClasses.FULL, "NO", (long) QueryClasses.NO, "LOST", QueryClasses.LOST);
    private static QueryClasses shown;
    private static int calls;

    public static void main(String[] args) throws Exception {
        String page = Files.readString(README);
        Set<String> used = new TreeSet<>();
        for (String block : blocks(page)) {
            if (block.startsWith("static ")) {
                ownFunction(block);
            } else {
                for (String line : block.split("\n")) {
                    look(line, used);
                }
            }
        }
        for (Method method : QueryClasses.class.getDeclaredMethods()) {
            if (!java.lang.reflect.Modifier.isPrivate(method.getModifiers())) {
                CHECK.due("README shows " + method.getName(), used.contains(method.getName()) ? 1 : 0, 1);
            }
        }
        CHECK.due("calls of the one object are 512 at most", calls <= 512 ? 1 : 0, 1);
        tests(page);
        CHECK.close();
    }

    private static List<String> blocks(String page) {
        List<String> all = new ArrayList<>();
        Matcher m = Pattern.compile("(?s)\n```java\n(.*?)\n```\n").matcher(page);
        while (m.find()) {
            all.add(m.group(1));
        }
        CHECK.due("README shows code", all.isEmpty() ? 0 : 1, 1);
        return all;
    }

    private static void look(String line, Set<String> used) throws ReflectiveOperationException {
        Matcher call = CALL.matcher(line);
        Matcher told = TOLD.matcher(line);
        if (line.equals(MAKING)) {
            shown = new QueryClasses();
        } else if (told.matches()) {
            CHECK.due(line, tell(shown, told.group(1)), answer(told.group(2)));
            calls += (told.group(1).length() + 19) / 20 + 2;
        } else if (call.matches()) {
            used.add(call.group(1));
            CHECK.due(line, called(call.group(1), call.group(2)), answer(call.group(3)));
            calls++;
        } else {
            CHECK.due("is a call with its answer: " + line, line.isEmpty() ? 1 : 0, 1);
        }
    }

    private static long answer(String text) {
        return NAMED.containsKey(text) ? NAMED.get(text) : Long.parseLong(text);
    }

    private static long called(String name, String numbers) throws ReflectiveOperationException {
        String[] texts = numbers.isEmpty() ? new String[0] : numbers.split(", ");
        for (Method method : QueryClasses.class.getMethods()) {
            if (method.getName().equals(name) && method.getParameterCount() == texts.length) {
                Object[] given = new Object[texts.length];
                for (int i = 0; i < texts.length; i++) {
                    long v = Long.decode(texts[i].replace("L", ""));
                    boolean isLong = method.getParameterTypes()[i] == long.class;
                    given[i] = isLong ? (Object) v : (Object) Math.toIntExact(v);
                }
                return ((Number) method.invoke(shown, given)).longValue();
            }
        }
        throw new IllegalArgumentException("no such call: " + name + "(" + numbers + ")");
    }

    /** README's own function is the one below, to the letter. */
    private static void ownFunction(String block) throws java.io.IOException {
        String own = Files.readString(TESTS.resolve("ReadmeTest.java"));
        CHECK.due("README's function is the one here", own.contains(indented(block)) ? 1 : 0, 1);
    }

    private static String indented(String block) {
        return "\n    private " + block.replace("\n", "\n    ") + "\n";
    }

    private static void tests(String page) throws java.io.IOException {
        Set<String> there = new TreeSet<>();
        try (java.util.stream.Stream<Path> files = Files.list(TESTS)) {
            files.map(f -> f.getFileName().toString().replace(".java", "")).filter(f -> f.endsWith("Test")).forEach(there::add);
        }
        Set<String> named = new TreeSet<>();
        Matcher m = Pattern.compile("\\b\\w+Test\\b").matcher(page.substring(page.indexOf("## Tests")));
        while (m.find()) {
            named.add(m.group());
        }
        CHECK.due("README names the tests " + there + ", no more and no less", named.equals(there) ? 1 : 0, 1);
        CHECK.due(".ci/run can be run", Files.isExecutable(Path.of(".ci/run")) ? 1 : 0, 1);
        CHECK.due("README tells how tests are run", page.contains("\n```sh\n.ci/run\n```\n") ? 1 : 0, 1);
    }

    private static int tell(QueryClasses x, String text) {
        for (int at = 0; at < text.length(); at += 20) {
            int[] n = new int[5];
            for (int i = 0; i < 20; i++) {
                int b = at + i < text.length() ? text.charAt(at + i) : ' ';
                n[i / 4] = n[i / 4] << 8 | b;
            }
            x.feed(n[0], n[1], n[2], n[3], n[4]);
        }
        x.end(text.length());
        return x.query();
    }
}
