import java.io.IOException;
import java.lang.reflect.Field;
import java.lang.reflect.Method;
import java.lang.reflect.Modifier;
import java.nio.file.Files;
import java.nio.file.Path;
import java.util.List;
import java.util.regex.Matcher;
import java.util.regex.Pattern;

/** Does what README.md shows: each call of its examples answers the number behind it, and none of the face is left out. */
final class ReadmeTest {
    private static final Pattern MADE = Pattern.compile("CraneGates \\w+ = new CraneGates\\(\\);");
    private static final Pattern TYPED = Pattern.compile("for \\(char sign : \"(.*)\"\\.toCharArray\\(\\)\\) \\{");
    private static final Pattern CALL = Pattern.compile("\\w+\\.(\\w+)\\(([-0-9, ]*)\\); *// (-?[0-9]+): .*");
    private static final Pattern ROW = Pattern.compile("\\| `(\\w+)\\(([a-z, ]*)\\)` \\|.*");
    private static final List<String> REST_OF_TYPED = List.of("    dam.type(sign);", "}");

    private static final Check check = new Check("ReadmeTest");

    private ReadmeTest() { }

    public static void main(String[] args) throws IOException {
        List<String> lines = Files.readAllLines(Path.of("README.md"));
        examples(lines);
        rowsOfCalls(lines);
        constants(lines);
        check.end();
    }

    private static void examples(List<String> lines) {
        CraneGates x = null;
        int calls = 0;
        boolean shown = false;
        for (String line : lines) {
            if (line.startsWith("```")) {
                shown = line.equals("```java");
            } else if (shown && MADE.matcher(line).matches()) {
                x = new CraneGates();
            } else if (shown && TYPED.matcher(line).matches()) {
                Make.write(x, typed(line));
            } else if (shown && !REST_OF_TYPED.contains(line)) {
                call(x, line);
                calls++;
            }
        }
        check.that("there are examples", calls > 10);
    }

    private static String typed(String line) {
        Matcher m = TYPED.matcher(line);
        return m.matches() ? m.group(1) : "";
    }

    private static void call(CraneGates x, String line) {
        Matcher m = CALL.matcher(line);
        boolean isCall = x != null && m.matches();
        check.that("a call and its answer: " + line, isCall);
        if (isCall) {
            String[] numbers = m.group(2).split(" *, *");
            check.due(line, Program.call(x, m.group(1), number(numbers, 0), number(numbers, 1)),
                Integer.parseInt(m.group(3)));
        }
    }

    private static int number(String[] numbers, int index) {
        return index < numbers.length && !numbers[index].isEmpty() ? Integer.parseInt(numbers[index]) : 0;
    }

    private static void rowsOfCalls(List<String> lines) {
        for (Method m : CraneGates.class.getDeclaredMethods()) {
            if (Modifier.isPublic(m.getModifiers())) {
                check.due("rows of " + m.getName(), lines.stream().filter(line -> isRowOf(m, line)).count(), 1);
            }
        }
    }

    private static boolean isRowOf(Method m, String line) {
        Matcher row = ROW.matcher(line);
        if (!row.matches() || !row.group(1).equals(m.getName())) {
            return false;
        }
        int parameters = row.group(2).isEmpty() ? 0 : row.group(2).split(",").length;
        return parameters == m.getParameterCount();
    }

    private static void constants(List<String> lines) throws IOException {
        for (Field f : CraneGates.class.getDeclaredFields()) {
            if (Modifier.isPublic(f.getModifiers())) {
                String row = "| `" + f.getName() + "` | " + valueOf(f) + " |";
                check.that("the row of " + f.getName(), lines.stream().anyMatch(line -> line.startsWith(row)));
            }
        }
    }

    private static int valueOf(Field f) throws IOException {
        try {
            return f.getInt(null);
        } catch (IllegalAccessException e) {
            throw new IOException(e);
        }
    }
}
