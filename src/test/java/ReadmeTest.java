import java.lang.reflect.Method;
import java.nio.file.Files;
import java.nio.file.Path;
import java.util.Arrays;
import java.util.List;
import java.util.regex.Matcher;
import java.util.regex.Pattern;

/** What README.md shows of the class is so: each answer of its example, each call of its table, each test it names. */
public final class ReadmeTest {
    private static final Check CHECK = new Check("ReadmeTest");
    private static final Pattern TOLD = Pattern.compile("\"([^\"]*)\"\\.toCharArray");
    private static final Pattern SHOWN = Pattern.compile("x\\.(\\w+)\\(([-0-9, ]*)\\); +// (-?\\d+|[A-Z]+)\\b.*");
    private static final Pattern ROW = Pattern.compile("\\| `(\\w+)\\(([^)]*)\\)` \\|.*");

    public static void main(String[] args) throws Exception {
        List<String> lines = Files.readAllLines(Path.of("README.md"));
        example(lines);
        tableOfCalls(lines);
        tableOfTests(lines);
        CHECK.finish();
    }

    private static void example(List<String> lines) throws Exception {
        YearLines x = new YearLines();
        int shown = 0;
        for (String line : lines) {
            Matcher told = TOLD.matcher(line);
            if (told.find()) {
                Check.type(x, told.group(1));
            }
            Matcher call = SHOWN.matcher(line);
            if (call.matches()) {
                int[] arguments = numbers(call.group(2));
                int number = Arrays.asList(Calls.NAMES).indexOf(call.group(1));
                CHECK.due(line, Calls.ask(x, number, arguments), answer(call.group(3)));
                shown++;
            }
        }
        CHECK.due("every call of the example has its answer beside it", shown, callsIn(lines));
    }

    private static int callsIn(List<String> lines) {
        return (int) lines.stream().filter(l -> l.startsWith("x.")).count();
    }

    private static int[] numbers(String list) {
        return list.isBlank() ? new int[0]
                : Arrays.stream(list.split(",")).map(String::trim).mapToInt(Integer::parseInt).toArray();
    }

    private static int answer(String word) throws Exception {
        return Character.isUpperCase(word.charAt(0)) ? YearLines.class.getField(word).getInt(null)
                : Integer.parseInt(word);
    }

    private static void tableOfCalls(List<String> lines) {
        for (Method m : YearLines.class.getDeclaredMethods()) {
            int rows = 0;
            for (String line : lines) {
                Matcher row = ROW.matcher(line);
                if (row.matches() && row.group(1).equals(m.getName())) {
                    rows++;
                    int told = row.group(2).isEmpty() ? 0 : row.group(2).split(",").length;
                    CHECK.due("arguments of " + line, told, m.getParameterCount());
                }
            }
            boolean face = Arrays.asList(Calls.NAMES).contains(m.getName());
            CHECK.due("rows of " + m.getName(), rows, face ? 1 : 0);
        }
    }

    private static void tableOfTests(List<String> lines) throws Exception {
        try (var files = Files.list(Path.of("src/test/java"))) {
            for (Path file : files.filter(f -> f.toString().endsWith("Test.java")).toList()) {
                String name = file.getFileName().toString().replace(".java", "");
                CHECK.due("rows of " + name, (int) lines.stream().filter(l -> l.startsWith("| " + name + " |")).count(), 1);
            }
        }
    }
}
