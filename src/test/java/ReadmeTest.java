import java.io.IOException;
import java.lang.reflect.Method;
import java.lang.reflect.Modifier;
import java.nio.file.Files;
import java.nio.file.Path;
import java.util.List;
import java.util.regex.Matcher;
import java.util.regex.Pattern;
import java.util.stream.Stream;

/** README.md: its examples answer as they say, and its tables name every call and every test. */
public final class ReadmeTest {
    private static final Path README = Path.of("README.md");
    private static final Path TESTS = Path.of("src/test/java");
    private static final Pattern MADE = Pattern.compile(
        "PartitionedProcedureStore store = new PartitionedProcedureStore\\((-?\\d+)\\);");
    private static final Pattern CALL = Pattern.compile("store\\.(\\w+)\\(([^)]*)\\); +// (-?\\w+)(:? .*)?");
    private static final Due due = new Due("ReadmeTest");

    public static void main(String[] args) throws IOException, ReflectiveOperationException {
        List<String> lines = Files.readAllLines(README);
        examplesAnswerAsTheySay(lines);
        everyCallIsNamed(lines);
        everyTestIsNamed(lines);
        due.end();
    }

    private static void examplesAnswerAsTheySay(List<String> lines) throws ReflectiveOperationException {
        PartitionedProcedureStore store = null;
        boolean inExample = false;
        int examples = 0;
        for (String line : lines) {
            if (line.startsWith("```")) {
                inExample = line.equals("```java");
                continue;
            }
            Matcher made = MADE.matcher(line);
            if (inExample && made.matches()) {
                store = new PartitionedProcedureStore(Integer.parseInt(made.group(1)));
                examples++;
            } else if (inExample) {
                answersAsItSays(store, line);
            }
        }
        due.holds("there are two examples", examples == 2);
    }

    private static void answersAsItSays(PartitionedProcedureStore store, String line) throws ReflectiveOperationException {
        Matcher call = CALL.matcher(line);
        if (!call.matches()) {
            due.holds("a call with its answer: " + line, false);
            return;
        }
        long got = ((Number) named(call.group(1)).invoke(store, values(call.group(2)))).longValue();
        due.is(line, got, number(call.group(3)));
    }

    private static Method named(String name) throws NoSuchMethodException {
        for (Method method : PartitionedProcedureStore.class.getDeclaredMethods()) {
            if (method.getName().equals(name) && Modifier.isPublic(method.getModifiers())) {
                return method;
            }
        }
        throw new NoSuchMethodException(name);
    }

    private static Object[] values(String text) {
        if (text.isEmpty()) {
            return new Object[0];
        }
        String[] parts = text.split(", ");
        Object[] values = new Object[parts.length];
        for (int i = 0; i < parts.length; i++) {
            boolean truth = parts[i].equals("true") || parts[i].equals("false");
            values[i] = truth ? (Object) Boolean.valueOf(parts[i]) : (Object) Integer.valueOf(parts[i]);
        }
        return values;
    }

    private static long number(String text) throws ReflectiveOperationException {
        if (text.matches("-?\\d+")) {
            return Long.parseLong(text);
        }
        return ((Number) PartitionedProcedureStore.class.getField(text).get(null)).longValue();
    }

    private static void everyCallIsNamed(List<String> lines) {
        for (Method method : PartitionedProcedureStore.class.getDeclaredMethods()) {
            if (Modifier.isPublic(method.getModifiers())) {
                String row = "| `" + method.getName() + "(";
                due.holds("a row for " + method.getName(), lines.stream().anyMatch(line -> line.startsWith(row)));
            }
        }
    }

    private static void everyTestIsNamed(List<String> lines) throws IOException {
        try (Stream<Path> files = Files.list(TESTS)) {
            files.map(file -> file.getFileName().toString()).filter(name -> name.endsWith("Test.java")).forEach(name -> {
                String row = "| " + name.replace(".java", "") + " |";
                due.holds("a row for " + name, lines.stream().anyMatch(line -> line.startsWith(row)));
            });
        }
        lines.stream().filter(line -> line.matches("\\| \\w+Test \\|.*")).forEach(line -> {
            String name = line.split(" ")[1];
            due.holds("there is a " + name, Files.exists(TESTS.resolve(name + ".java")));
        });
    }
}
