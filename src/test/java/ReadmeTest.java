import java.io.IOException;
import java.lang.reflect.Method;
import java.lang.reflect.Modifier;
import java.nio.file.Files;
import java.nio.file.Path;
import java.util.List;
import java.util.Set;
import java.util.TreeSet;
import java.util.regex.Matcher;
import java.util.regex.Pattern;

/** README.md: what its example says is so, and its tables have all calls and all refusals. */
public final class ReadmeTest {
    private static final Due DUE = new Due("ReadmeTest");
    private static final Pattern EXAMPLE = Pattern.compile("(?m)^x\\.(\\w+)\\((.*?)\\); +// (-?\\d+)\\b");

    public static void main(String[] args) throws IOException, ReflectiveOperationException {
        String readme = Files.readString(Path.of("README.md"));
        example(readme);
        calls(readme);
        refusals(readme);
        tests(readme);
        DUE.end();
    }

    private static void example(String readme) throws ReflectiveOperationException {
        String code = readme.substring(readme.indexOf("```java\n"), readme.indexOf("## The calls"));
        BallBoxes x = new BallBoxes();
        int calls = 0;
        Matcher line = EXAMPLE.matcher(code);
        while (line.find()) {
            calls++;
            String call = line.group(1) + "(" + line.group(2) + ")";
            DUE.is("example " + calls + ": " + call, answer(x, line.group(1), line.group(2)), Long.parseLong(line.group(3)));
        }
        DUE.is("calls of the example that tell their answer", calls, code.split("\nx\\.").length - 1);
        DUE.holds("an example", calls > 0);
    }

    private static long answer(BallBoxes x, String name, String args) throws ReflectiveOperationException {
        String[] texts = args.isEmpty() ? new String[0] : args.split(", ");
        Method method = methodOf(name);
        Object[] values = new Object[texts.length];
        for (int k = 0; k < texts.length; k++) {
            boolean isInt = method.getParameterTypes()[k] == int.class;
            values[k] = isInt ? (Object) Integer.valueOf(texts[k]) : (Object) Boolean.valueOf(texts[k]);
        }
        return ((Number) method.invoke(x, values)).longValue();
    }

    private static Method methodOf(String name) {
        for (Method method : BallBoxes.class.getDeclaredMethods()) {
            if (method.getName().equals(name)) return method;
        }
        throw new IllegalStateException("README.md has a call that there is not: " + name);
    }

    private static void calls(String readme) {
        Set<String> told = new TreeSet<>();
        Matcher row = Pattern.compile("(?m)^\\| `(\\w+)\\((.*?)\\)` \\|").matcher(readme);
        while (row.find()) told.add(row.group(1) + " of " + (row.group(2).isEmpty() ? 0 : row.group(2).split(", ").length));
        Set<String> there = new TreeSet<>();
        for (Method method : BallBoxes.class.getDeclaredMethods()) {
            if (Modifier.isPublic(method.getModifiers())) there.add(method.getName() + " of " + method.getParameterCount());
        }
        DUE.is("the table of the calls", told.toString(), there.toString());
    }

    private static void refusals(String readme) {
        List<String> rows = List.of("-2 | `BAD`", "-3 | `NOT`", "-4 | `FULL`", "-5 | `SPENT`", "-11 | NULL, finding 1",
            "-12 | INDEX, finding 2", "-13 | CAST, finding 3", "-14 | STORE, finding 4", "-15 | SIZE, finding 5");
        for (String row : rows) DUE.holds("a row of " + row, readme.contains("\n| " + row + " |"));
    }

    private static void tests(String readme) throws IOException {
        DUE.holds("how the tests are run", readme.contains(".ci/run"));
        try (var files = Files.list(Path.of("src/test/java"))) {
            for (String file : (Iterable<String>) files.map(f -> f.getFileName().toString())::iterator) {
                if (!file.endsWith("Test.java")) continue;
                String name = file.substring(0, file.length() - ".java".length());
                DUE.holds("it tells of " + name, readme.contains("`" + name + "`"));
            }
        }
    }
}
