import java.io.IOException;
import java.lang.reflect.Method;
import java.lang.reflect.Modifier;
import java.nio.file.Files;
import java.nio.file.Path;
import java.util.HashMap;
import java.util.List;
import java.util.Map;
import java.util.regex.Matcher;
import java.util.regex.Pattern;
import java.util.stream.Stream;

/** README.md tells no call, answer or test that is not so, and leaves none out. */
public final class ReadmeTest {
    private static final Check CHECK = new Check("ReadmeTest");
    private static final Pattern CALL = Pattern.compile("(?:int (\\w+) = )?x\\.(\\w+)\\((.*?)\\); +// (-?\\d+)\\b.*");

    public static void main(String[] args) throws IOException, ReflectiveOperationException {
        List<String> lines = Files.readAllLines(Path.of("README.md"));
        example(lines);
        rowsOfCalls(lines);
        tests(String.join("\n", lines));
        CHECK.close();
    }

    /** Runs the lines of Java: each has a call with its answer, or makes the object, or is a remark. */
    private static void example(List<String> lines) throws ReflectiveOperationException {
        CHECK.section("the example");
        int from = lines.indexOf("```java") + 1;
        CHECK.holds("the page has an example", from > 0);
        List<String> code = lines.subList(from, from + lines.subList(from, lines.size()).indexOf("```"));
        Map<String, Integer> names = new HashMap<>();
        Map<String, Integer> called = new HashMap<>();
        SaltPool x = new SaltPool();
        for (String line : code) {
            Matcher call = CALL.matcher(line);
            if (call.matches()) {
                int answer = answerOf(x, call.group(2), call.group(3), names);
                CHECK.due(line, answer, Integer.parseInt(call.group(4)));
                names.put(String.valueOf(call.group(1)), answer);
                called.merge(call.group(2), 1, Integer::sum);
            } else {
                CHECK.holds("can be read: " + line,
                        line.isEmpty() || line.startsWith("// ") || line.equals("SaltPool x = new SaltPool();"));
            }
        }
        for (Method method : SaltPool.class.getDeclaredMethods()) {
            if (Modifier.isPublic(method.getModifiers())) {
                CHECK.holds("the example has " + method.getName(), called.containsKey(method.getName()));
            }
        }
    }

    private static int answerOf(SaltPool x, String name, String told, Map<String, Integer> names)
            throws ReflectiveOperationException {
        Method method = named(name);
        Class<?>[] types = method.getParameterTypes();
        String[] words = told.isEmpty() ? new String[0] : told.split(", ");
        CHECK.due("numbers of " + name, words.length, types.length);
        Object[] numbers = new Object[types.length];
        for (int k = 0; k < types.length; k++) {
            long number = names.containsKey(words[k]) ? names.get(words[k])
                    : types[k] == boolean.class ? 0 : Long.decode(words[k].replace("L", ""));
            numbers[k] = types[k] == int.class ? (Object) (int) number
                    : types[k] == long.class ? (Object) number : (Object) words[k].equals("true");
        }
        return (int) method.invoke(x, numbers);
    }

    private static Method named(String name) throws NoSuchMethodException {
        for (Method method : SaltPool.class.getDeclaredMethods()) {
            if (method.getName().equals(name)) {
                return method;
            }
        }
        throw new NoSuchMethodException(name);
    }

    private static void rowsOfCalls(List<String> lines) {
        CHECK.section("the rows of calls");
        for (Method method : SaltPool.class.getDeclaredMethods()) {
            if (!Modifier.isPublic(method.getModifiers())) {
                continue;
            }
            int rows = 0;
            for (String line : lines) {
                if (line.startsWith("| `" + method.getName() + "(")) {
                    String told = line.substring(line.indexOf('(') + 1, line.indexOf(')'));
                    CHECK.due("numbers of " + line, told.isEmpty() ? 0 : told.split(", ").length,
                            method.getParameterCount());
                    rows++;
                }
            }
            CHECK.due("rows of " + method.getName(), rows, 1);
        }
    }

    private static void tests(String page) throws IOException {
        CHECK.section("the tests");
        try (Stream<Path> files = Files.list(Path.of("src/test/java"))) {
            files.map(file -> file.getFileName().toString()).filter(name -> name.endsWith("Test.java"))
                    .map(name -> "`" + name.replace(".java", "") + "`")
                    .forEach(name -> CHECK.holds("the page has " + name, page.contains(name)));
        }
        Matcher named = Pattern.compile("`(\\w+Test)`").matcher(page);
        while (named.find()) {
            CHECK.holds("there is " + named.group(1), Files.exists(Path.of("src/test/java", named.group(1) + ".java")));
        }
    }
}
