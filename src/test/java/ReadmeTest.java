import java.lang.reflect.InvocationTargetException;
import java.lang.reflect.Method;
import java.nio.file.Files;
import java.nio.file.Path;
import java.util.List;
import java.util.Set;
import java.util.TreeSet;
import java.util.regex.Matcher;
import java.util.regex.Pattern;

/** The calls that README.md tells answer what it tells; it names every method and each test of the project. */
public final class ReadmeTest {
    private static final Checks C = new Checks("ReadmeTest");
    private static final Pattern CALL = Pattern.compile("x\\.(\\w+)\\(([^)]*)\\);\\s+// (-?\\d+)\\b.*");

    public static void main(String[] args) throws Exception {
        String readme = Files.readString(Path.of("README.md"));
        calls(readme.substring(readme.indexOf("```java\n") + 8, readme.indexOf("\n```\n\n|")).lines().toList());
        methods(readme);
        tests(readme);
        C.end();
    }

    private static void calls(List<String> lines) throws Exception {
        GraphTexts x = new GraphTexts();
        int calls = 0;
        for (String line : lines) {
            Matcher call = CALL.matcher(line);
            if (call.matches()) {
                C.same(line, answer(x, call.group(1), call.group(2)), Integer.parseInt(call.group(3)));
                calls++;
            } else {
                C.same("a line without a call", line, calls == 0 ? "GraphTexts x = new GraphTexts();" : "");
            }
        }
        C.same("calls are seen", calls > 10 ? 1 : 0, 1);
        C.same("what is WRITTEN", Checks.written(x), "% c d\na b 1.5\n");
    }

    private static int answer(GraphTexts x, String name, String told) throws Exception {
        String[] values = told.isEmpty() ? new String[0] : told.split(", ");
        for (Method method : GraphTexts.class.getDeclaredMethods()) {
            if (method.getName().equals(name) && method.getParameterCount() == values.length) {
                return answer(x, method, values);
            }
        }
        throw new IllegalStateException("no method " + name);
    }

    private static int answer(GraphTexts x, Method method, String[] values) throws Exception {
        Object[] given = new Object[values.length];
        for (int i = 0; i < values.length; i++) {
            boolean wide = method.getParameterTypes()[i] == long.class;
            given[i] = wide ? (Object) Long.decode(values[i].replace("L", "")) : (Object) Integer.decode(values[i]);
        }
        try {
            return (Integer) method.invoke(x, given);
        } catch (InvocationTargetException e) {
            throw new IllegalStateException(method + " threw", e.getCause());
        }
    }

    private static void methods(String readme) {
        Set<String> names = new TreeSet<>();
        for (Method method : GraphTexts.class.getMethods()) {
            if (method.getDeclaringClass() == GraphTexts.class) {
                names.add(method.getName());
            }
        }
        C.same("methods of the face", names.size(), 15);
        for (String name : names) {
            C.same("README.md names " + name, readme.contains("`" + name + "`") ? 1 : 0, 1);
        }
    }

    private static void tests(String readme) throws Exception {
        List<Path> files;
        try (var all = Files.list(Path.of("src/test/java"))) {
            files = all.toList();
        }
        for (Path file : files) {
            String name = file.getFileName().toString().replace(".java", "");
            if (name.endsWith("Test")) {
                C.same("README.md names " + name, readme.contains("`" + name + "`") ? 1 : 0, 1);
            }
        }
        C.same("tests are seen", files.size() > 10 ? 1 : 0, 1);
    }
}
