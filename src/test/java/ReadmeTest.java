import java.io.IOException;
import java.lang.reflect.Method;
import java.nio.file.Files;
import java.nio.file.Path;
import java.util.HashMap;
import java.util.Map;
import java.util.Set;
import java.util.TreeSet;
import java.util.regex.Matcher;
import java.util.regex.Pattern;
import java.util.stream.Stream;

/** README.md's words hold: each call in its examples is made, and each test is in its list. */
public final class ReadmeTest {
    private static final Pattern CALL =
            Pattern.compile("(?:int (\\w+) = )?x\\.(\\w+)\\(([^)]*)\\);\\s+// (-?\\d+)\\b.*");
    private static final Pattern LISTED = Pattern.compile("\\| `(\\w+Test)` \\|.*");
    private static final String NEW_OBJECT = "ArrayMaker x = new ArrayMaker();";

    private final Map<String, Integer> variables = new HashMap<>();
    private final Set<String> called = new TreeSet<>();
    private ArrayMaker x;
    private boolean wrong = false;

    private void check(boolean right, String told) {
        if (!right) {
            wrong = true;
            System.out.println(told);
        }
    }

    private Object argument(String word, Class<?> type) {
        int number = variables.containsKey(word) ? variables.get(word) : Integer.parseInt(word);
        if (type == long.class) {
            return (long) number;
        }
        return number;
    }

    private long answer(String name, String words) throws ReflectiveOperationException {
        String[] parts = words.isEmpty() ? new String[0] : words.split(", ");
        for (Method method : ArrayMaker.class.getMethods()) {
            Class<?>[] types = method.getParameterTypes();
            if (method.getName().equals(name) && types.length == parts.length) {
                Object[] arguments = new Object[parts.length];
                for (int n = 0; n < parts.length; n++) {
                    arguments[n] = argument(parts[n], types[n]);
                }
                return ((Number) method.invoke(x, arguments)).longValue();
            }
        }
        throw new NoSuchMethodException(name);
    }

    private void example(String line) throws ReflectiveOperationException {
        if (line.equals(NEW_OBJECT)) {
            x = new ArrayMaker();
            variables.clear();
            return;
        }
        Matcher call = CALL.matcher(line);
        check(call.matches(), "this line of an example tells no call and answer: " + line);
        if (!call.matches()) {
            return;
        }
        long got = answer(call.group(2), call.group(3));
        check(got == Long.parseLong(call.group(4)), "answered " + got + ": " + line);
        if (call.group(1) != null) {
            variables.put(call.group(1), (int) got);
        }
        called.add(call.group(2));
    }

    private void examples(Iterable<String> lines) throws ReflectiveOperationException {
        boolean inside = false;
        for (String line : lines) {
            if (line.startsWith("```")) {
                inside = line.equals("```java");
            } else if (inside) {
                example(line);
            }
        }
        check(called.size() >= 15, "only these calls have an example: " + called);
    }

    private void listOfTests(Iterable<String> lines) throws IOException {
        Set<String> listed = new TreeSet<>();
        for (String line : lines) {
            Matcher row = LISTED.matcher(line);
            if (row.matches()) {
                listed.add(row.group(1) + ".java");
            }
        }
        Set<String> there = new TreeSet<>();
        try (Stream<Path> files = Files.list(Path.of("src/test/java"))) {
            files.map(file -> file.getFileName().toString()).filter(name -> name.endsWith("Test.java"))
                    .forEach(there::add);
        }
        check(listed.equals(there), "README.md lists " + listed + ", there are " + there);
    }

    public static void main(String[] args) throws IOException, ReflectiveOperationException {
        ReadmeTest test = new ReadmeTest();
        Iterable<String> lines = Files.readAllLines(Path.of("README.md"));
        test.examples(lines);
        test.listOfTests(lines);
        System.out.println(test.wrong ? "README.md does not hold" : "README.md holds");
        if (test.wrong) {
            System.exit(1);
        }
    }
}
