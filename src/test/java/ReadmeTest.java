import java.io.IOException;
import java.lang.reflect.Method;
import java.lang.reflect.Modifier;
import java.nio.file.Files;
import java.nio.file.Path;
import java.util.HashMap;
import java.util.List;
import java.util.Map;
import java.util.Set;
import java.util.TreeSet;
import java.util.regex.Matcher;
import java.util.regex.Pattern;
import java.util.stream.Collectors;
import java.util.stream.Stream;

/** README.md shows calls with their answers, all calls, the clauses and the tests: each as it is. */
public final class ReadmeTest {
    private static final Pattern BLOCK = Pattern.compile("(?s)```java\n(.*?)```");
    private static final Pattern NEW = Pattern.compile("AirWatch watch = new AirWatch\\(\\);");
    private static final Pattern CALL =
            Pattern.compile("(?:int (\\w+) = )?watch\\.(\\w+)\\((.*?)\\); +// (-?\\d+|true|false)(?::.*)?");
    private static final Pattern SHOWN_BYTES = Pattern.compile("// \\d+: \"([^\"]*)\"");
    private static final Pattern ROW = Pattern.compile("(?m)^\\| `(\\w+)\\(([^)]*)\\)` \\|");
    private static final Pattern CLAUSE = Pattern.compile("(?m)^\\| `(\\w+ [^`]*;)` \\|");
    private static final Pattern TEST = Pattern.compile("`(\\w+Test)`");

    private final Map<String, Integer> values = new HashMap<>();
    private final Set<String> shown = new TreeSet<>();
    private AirWatch watch = new AirWatch();

    private ReadmeTest() {
    }

    public static void main(String[] args) throws IOException, ReflectiveOperationException {
        String page = Files.readString(Path.of("README.md"));
        new ReadmeTest().example(page);
        table(page);
        clauses(page);
        tests(page);
        Check.due("it says how the tests are run", page.contains("\n    .ci/run\n"), true);
        Check.finish();
    }

    private static Map<String, Method> face() {
        return Stream.of(AirWatch.class.getDeclaredMethods())
                .filter(m -> Modifier.isPublic(m.getModifiers()))
                .collect(Collectors.toMap(Method::getName, m -> m));
    }

    /** All lines but blank ones and whole comments are calls: none may stand there unlooked at. */
    private void example(String page) throws ReflectiveOperationException {
        Matcher block = BLOCK.matcher(page);
        while (block.find()) {
            for (String line : block.group(1).split("\n")) {
                if (NEW.matcher(line).matches()) {
                    watch = new AirWatch();
                } else if (!line.isEmpty() && !line.startsWith("//")) {
                    line(line);
                }
            }
        }
        Check.due("calls shown with answers " + shown, shown.equals(face().keySet()), true);
    }

    private void line(String line) throws ReflectiveOperationException {
        Matcher call = CALL.matcher(line);
        boolean read = call.matches() && face().containsKey(call.group(2));
        Check.due("a call that can be made: " + line, read, true);
        if (!read) {
            return;
        }
        shown.add(call.group(2));
        Integer[] arguments = arguments(call.group(3));
        String answer = face().get(call.group(2)).invoke(watch, (Object[]) arguments).toString();
        Check.due(line + " (answered " + answer + ")", answer.equals(call.group(4)), true);
        if (call.group(1) != null) {
            values.put(call.group(1), Integer.valueOf(answer));
        }
        shownBytes(line, arguments);
    }

    private Integer[] arguments(String told) {
        List<Integer> all = Stream.of(told.split(", ")).filter(s -> !s.isEmpty())
                .map(this::value).collect(Collectors.toList());
        return all.toArray(new Integer[0]);
    }

    private int value(String told) {
        if (values.containsKey(told)) {
            return values.get(told);
        }
        return told.startsWith("0b") ? Integer.parseInt(told.substring(2), 2) : Integer.decode(told);
    }

    /** A text in the words behind a call is what the numbers before it are the bytes of. */
    private static void shownBytes(String line, Integer[] arguments) {
        Matcher text = SHOWN_BYTES.matcher(line);
        if (text.find()) {
            for (int i = 0; i < arguments.length; i++) {
                Check.due("number " + i + " of " + line, arguments[i], Text.four(text.group(1), 4 * i));
            }
        }
    }

    private static void table(String page) {
        Map<String, Method> face = face();
        Set<String> told = new TreeSet<>();
        Matcher row = ROW.matcher(page);
        while (row.find()) {
            told.add(row.group(1));
            Method method = face.get(row.group(1));
            int arguments = row.group(2).isEmpty() ? 0 : row.group(2).split(", ").length;
            Check.due("arguments of " + row.group(), arguments, method == null ? -1 : method.getParameterCount());
        }
        Check.due("all calls in the table " + told, told.equals(face.keySet()), true);
    }

    private static void clauses(String page) {
        AirWatch reader = new AirWatch();
        StringBuilder all = new StringBuilder();
        int count = 0;
        Matcher clause = CLAUSE.matcher(page);
        while (clause.find()) {
            Check.due("licence of " + clause.group(1), Text.licence(reader, clause.group(1)), count);
            all.insert(0, clause.group(1));
            count++;
        }
        Check.due("clauses", count, 4);
        Check.due("all clauses in another order", Text.licence(reader, all.toString()), count);
    }

    private static void tests(String page) throws IOException {
        Set<String> told = new TreeSet<>();
        Matcher test = TEST.matcher(page);
        while (test.find()) {
            told.add(test.group(1));
        }
        Set<String> there;
        try (Stream<Path> files = Files.list(Path.of("src/test/java"))) {
            there = files.map(f -> f.getFileName().toString()).filter(f -> f.endsWith("Test.java"))
                    .map(f -> f.substring(0, f.length() - ".java".length()))
                    .collect(Collectors.toCollection(TreeSet::new));
        }
        Check.due("the tests told " + told + ", there are " + there, told.equals(there), true);
    }
}
