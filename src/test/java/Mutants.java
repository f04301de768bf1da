import java.io.IOException;
import java.net.URL;
import java.net.URLClassLoader;
import java.nio.file.Files;
import java.nio.file.Path;
import java.util.ArrayList;
import java.util.HashMap;
import java.util.HashSet;
import java.util.List;
import java.util.Map;
import java.util.Set;
import java.util.stream.Collectors;
import javax.tools.JavaCompiler;
import javax.tools.ToolProvider;

/**
 * Shows that each test of a sentence fails if the sentence is broken. src/test/mutants.txt tells, for each
 * sentence, changes of the class that break it; each is made, compiled with the test, and must be found by
 * the test of that very sentence. It is no part of .ci/run, as it goes by the class's own words.
 */
public final class Mutants {
    private static final Path SOURCE = Path.of("src/main/java/QueryClasses.java");
    private static final Path LIST = Path.of("src/test/mutants.txt");
    private static final Path TESTS = Path.of("src/test/java");
    private static final long MOST_SECONDS = 60;

    /** A change that breaks a sentence: what stands in the source, and what instead. */
    private static final class Mutant {
        final String test;
        final String sentence;
        final List<String> from = new ArrayList<>();
        final List<String> to = new ArrayList<>();

        Mutant(String test, String sentence) {
            this.test = test;
            this.sentence = sentence;
        }
    }

    public static void main(String[] args) throws Exception {
        List<Mutant> mutants = read();
        String source = Files.readString(SOURCE);
        Path folder = Files.createTempDirectory("mutants");
        List<String> wrong = new ArrayList<>();
        Map<String, Set<String>> named = new HashMap<>();
        for (String test : mutants.stream().map(m -> m.test).collect(Collectors.toSet())) {
            Path out = Files.createDirectory(folder.resolve(test));
            Object[] sound = results(test, source, out);
            named.put(test, new HashSet<>(texts(sound[0])));
            if (!texts(sound[1]).isEmpty()) {
                wrong.add(test + ": sentences do not hold without a change");
            }
        }
        List<String> unfound = java.util.stream.IntStream.range(0, mutants.size()).parallel()
            .mapToObj(i -> judged(mutants.get(i), source, folder.resolve("m" + i), named)).filter(s -> s != null)
            .collect(Collectors.toList());
        wrong.addAll(unfound);
        for (Mutant m : mutants) {
            named.get(m.test).remove(m.sentence);
        }
        named.forEach((test, left) -> left.forEach(s -> wrong.add(test + ": nothing breaks \"" + s + "\"")));
        wrong.forEach(System.out::println);
        System.out.println("Mutants: " + mutants.size() + " changes, " + wrong.size() + " complaints");
        System.exit(wrong.isEmpty() ? 0 : 1);
    }

    /** "@ test", "= sentence", then for each change lines of - and of +. */
    private static List<Mutant> read() throws IOException {
        List<Mutant> all = new ArrayList<>();
        String test = "";
        String sentence = "";
        Mutant last = null;
        char before = ' ';
        for (String line : Files.readAllLines(LIST)) {
            char sign = line.isEmpty() ? ' ' : line.charAt(0);
            String rest = line.length() > 2 ? line.substring(2) : "";
            if (sign == '@') {
                test = rest;
            } else if (sign == '=') {
                sentence = rest;
            }
            if (sign == '-') {
                if (before == '=' || before == ' ') {
                    last = new Mutant(test, sentence);
                    all.add(last);
                }
                add(last.from, rest, before == '-');
            } else if (sign == '+') {
                add(last.to, rest, before == '+');
            }
            before = sign;
        }
        return all;
    }

    private static void add(List<String> texts, String line, boolean more) {
        if (more) {
            texts.set(texts.size() - 1, texts.get(texts.size() - 1) + "\n" + line);
        } else {
            texts.add(line);
        }
    }

    private static String changed(Mutant m, String source) {
        String text = source;
        for (int i = 0; i < m.from.size(); i++) {
            String from = m.from.get(i);
            int at = text.indexOf(from);
            if (at < 0 || text.indexOf(from, at + 1) >= 0) {
                throw new IllegalStateException("is not once in the source: " + from);
            }
            text = text.substring(0, at) + m.to.get(i) + text.substring(at + from.length());
        }
        return text;
    }

    /** What is wrong with a mutant; null: the test of its sentence finds it. */
    private static String judged(Mutant m, String source, Path out, Map<String, Set<String>> named) {
        String name = m.test + ": \"" + m.sentence + "\": " + m.from.get(0).trim();
        if (!named.get(m.test).contains(m.sentence)) {
            return name + ": no such sentence is tested";
        }
        try {
            Files.createDirectory(out);
            Object[] results = results(m.test, changed(m, source), out);
            return texts(results[1]).contains(m.sentence) ? null : name + ": NOT FOUND";
        } catch (Exception e) {
            return name + ": " + e;
        }
    }

    private static Set<String> texts(Object set) {
        Set<String> all = new HashSet<>();
        for (Object text : (Set<?>) set) {
            all.add((String) text);
        }
        return all;
    }

    /** The sentences that a test names, and those that do not hold of a class with that source. */
    private static Object[] results(String test, String source, Path out) throws Exception {
        Path main = out.resolve("QueryClasses.java");
        Files.writeString(main, source);
        JavaCompiler compiler = ToolProvider.getSystemJavaCompiler();
        List<String> files = new ArrayList<>(List.of("-nowarn", "-d", out.toString(), main.toString()));
        for (String file : List.of("Edges", "Probe", "Check", test)) {
            files.add(TESTS.resolve(file + ".java").toString());
        }
        java.io.ByteArrayOutputStream said = new java.io.ByteArrayOutputStream();
        if (compiler.run(null, said, said, files.toArray(new String[0])) != 0) {
            throw new IllegalStateException("does not compile: " + said);
        }
        Object[] results = new Object[2];
        Thread thread = new Thread(() -> look(test, out, results));
        thread.setDaemon(true);
        thread.start();
        thread.join(1000 * MOST_SECONDS);
        if (results[1] == null) {
            throw new IllegalStateException("has no end, or threw");
        }
        return results;
    }

    private static void look(String test, Path out, Object[] results) {
        try (URLClassLoader loader = new URLClassLoader(new URL[] {out.toUri().toURL()}, ClassLoader.getPlatformClassLoader())) {
            Class<?> type = loader.loadClass(test);
            Object made = type.getDeclaredConstructor().newInstance();
            call(type, made, "sentences");
            Class<?> edges = type.getSuperclass();
            results[0] = call(edges, made, "named");
            results[1] = call(edges, made, "broken");
        } catch (ReflectiveOperationException | IOException e) {
            System.out.println(test + ": " + e + " " + e.getCause());
        }
    }

    private static Object call(Class<?> type, Object on, String name) throws ReflectiveOperationException {
        java.lang.reflect.Method method = type.getDeclaredMethod(name);
        method.setAccessible(true);
        return method.invoke(on);
    }
}
