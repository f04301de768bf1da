import java.lang.reflect.Constructor;
import java.lang.reflect.Field;
import java.lang.reflect.Method;
import java.lang.reflect.Modifier;
import java.nio.file.Files;
import java.nio.file.Path;
import java.util.List;
import java.util.Set;
import java.util.TreeSet;
import java.util.regex.Matcher;
import java.util.regex.Pattern;

/** Those rules of LANGUAGE.md that can be looked at from outside, and the document's face. */
public final class LanguageTest {
    private static final Check CHECK = new Check("LanguageTest");
    private static final List<String> FACE = List.of("objects(int)", "column(int,int,int)", "share(int,int)", "drop(int)",
        "put(int,int,long)", "cell(int,int)", "about(int,int)", "feed(int,int,int,int,int)", "end(int)", "query()", "fault()",
        "acts(int,int)", "act(int,int,int,int)", "run(int)", "told(int)", "hit(int)", "score(int)", "value(int)",
        "count(int)", "clear()");

    public static void main(String[] args) throws Exception {
        face();
        constants();
        classesInside();
        String source = Files.readString(Path.of("src/main/java/QueryClasses.java"));
        words(source.replaceAll("(?s)/\\*.*?\\*/", "").replaceAll("//[^\n]*", ""));
        lengths(source.split("\n"));
        CHECK.close();
    }

    private static void face() {
        Set<String> found = new TreeSet<>();
        for (Method method : QueryClasses.class.getDeclaredMethods()) {
            String params = List.of(method.getParameterTypes()).toString().replaceAll("[\\[\\] ]", "");
            if (!Modifier.isPrivate(method.getModifiers())) {
                found.add(method.getName() + "(" + params + ")");
                boolean answersLong = Set.of("cell", "score", "value").contains(method.getName());
                CHECK.due(method.getName() + " answers so", method.getReturnType() == (answersLong ? long.class : int.class) ? 1 : 0, 1);
            }
        }
        CHECK.due("methods of the face " + found, found.equals(new TreeSet<>(FACE)) ? 1 : 0, 1);
        CHECK.due("the class is public and final", QueryClasses.class.getModifiers(), Modifier.PUBLIC | Modifier.FINAL);
        Constructor<?>[] makers = QueryClasses.class.getDeclaredConstructors();
        CHECK.due("one constructor", makers.length, 1);
        CHECK.due("it is public", makers[0].getModifiers(), Modifier.PUBLIC);
    }

    private static void constants() {
        Set<String> names = new TreeSet<>();
        for (Field field : QueryClasses.class.getDeclaredFields()) {
            if (!Modifier.isPrivate(field.getModifiers())) {
                names.add(field.getName());
            }
        }
        CHECK.due("constants " + names, names.equals(Set.of("NONE", "BAD", "FULL", "NO", "LOST")) ? 1 : 0, 1);
        CHECK.due("LOST", QueryClasses.LOST, Long.MIN_VALUE);
        CHECK.due("NONE", QueryClasses.NONE, -1);
        CHECK.due("BAD", QueryClasses.BAD, -1);
        CHECK.due("FULL", QueryClasses.FULL, -2);
        CHECK.due("NO", QueryClasses.NO, -3);
    }

    private static void classesInside() {
        Class<?>[] inside = QueryClasses.class.getDeclaredClasses();
        CHECK.due("some twelve classes", inside.length <= 11 ? 1 : 0, 1);
        for (Class<?> one : inside) {
            CHECK.due(one + " is static", Modifier.isStatic(one.getModifiers()) ? 1 : 0, 1);
            CHECK.due(one + " is not public", Modifier.isPublic(one.getModifiers()) ? 1 : 0, 0);
            int own = 0;
            for (Field field : one.getDeclaredFields()) {
                boolean isStatic = Modifier.isStatic(field.getModifiers());
                own += isStatic ? 0 : 1;
                CHECK.due(field + " is final if static", isStatic && !Modifier.isFinal(field.getModifiers()) ? 1 : 0, 0);
            }
            CHECK.due(one + " has some twenty fields at most", own <= 20 ? 1 : 0, 1);
            for (Method method : one.getDeclaredMethods()) {
                for (String call : FACE) {
                    CHECK.due(method + " has a name of its own", call.startsWith(method.getName() + "(") ? 1 : 0, 0);
                }
                CHECK.due(method + " takes seven at most", method.getParameterCount() <= 7 ? 1 : 0, 1);
            }
        }
    }

    private static void words(String code) {
        String[] never = {"try", "catch", "finally", "throw", "synchronized", "assert", "instanceof", "record", "Double", "Float",
            "Object", "native", "volatile", "while", "do", "equals", "hashCode", "toString", "Random", "currentTimeMillis"};
        for (String word : never) {
            CHECK.due("the word " + word, Pattern.compile("\\b" + word + "\\b").matcher(code).find() ? 1 : 0, 0);
        }
        CHECK.due("lambdas", code.contains("->") || code.contains("::") ? 1 : 0, 0);
        each(code, "import ([\\w.]+);", Set.of("java.util.Arrays"));
        each(code, "Math\\.(\\w+)", Set.of("min", "max"));
        each(code, "Arrays\\.(\\w+)", Set.of("copyOf"));
        each(code, "System\\.(\\w+)", Set.of("arraycopy"));
        each(code, "\\bLong\\.(\\w+)", Set.of("MIN_VALUE", "compare"));
        each(code, "\\bInteger\\.(\\w+)", Set.of());
        for (int i = 0; i < code.length(); i++) {
            CHECK.due("byte " + i, code.charAt(i) < 128 ? 1 : 0, 1);
        }
    }

    private static void each(String code, String pattern, Set<String> allowed) {
        Matcher m = Pattern.compile(pattern).matcher(code);
        while (m.find()) {
            String name = m.group(1);
            CHECK.due(m.group() + " is allowed", allowed.contains(name) ? 1 : 0, 1);
        }
    }

    private static void lengths(String[] lines) {
        int from = -1;
        String name = "";
        for (int i = 0; i < lines.length; i++) {
            CHECK.due("line " + (i + 1) + " is short", lines[i].length() <= 100 ? 1 : 0, 1);
            if (lines[i].matches("(    |        )\\w.*\\) \\{") && !lines[i].contains(" class ")) {
                from = i;
                name = lines[i].trim();
            }
            if (from >= 0 && lines[i].matches("(    |        )\\}")) {
                CHECK.due(name + " is short", i - from <= 60 ? 1 : 0, 1);
                from = -1;
            }
        }
    }
}
