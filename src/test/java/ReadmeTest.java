import java.io.IOException;
import java.lang.reflect.Method;
import java.nio.file.Files;
import java.nio.file.Path;
import java.util.List;
import java.util.Set;
import java.util.TreeSet;
import java.util.regex.Matcher;
import java.util.regex.Pattern;

/** The example in README.md: its answers are those that the program gives, its words those that it knows. */
public final class ReadmeTest {
    private static final Pattern CALL = Pattern.compile("x\\.(\\w+)\\(([^)]*)\\); +// (-?\\d+)(: .*)?");
    private static final Pattern WORD = Pattern.compile("\\| (\\d+) \\| (\\w+) \\| (0x[0-9a-f]+) \\|.*");

    private ReadmeTest() {
    }

    public static void main(String[] args) throws IOException {
        List<String> lines = Files.readAllLines(Path.of("README.md"));
        theExample(lines);
        theWords(lines);
        Due.end();
    }

    private static void theExample(List<String> lines) {
        LedgerTests x = new LedgerTests();
        Set<String> shown = new TreeSet<>();
        boolean inside = false;
        for (String line : lines) {
            Matcher call = CALL.matcher(line);
            if (line.startsWith("```")) {
                inside = line.equals("```java");
            } else if (inside && call.matches()) {
                Due.is(line, answer(x, call.group(1), call.group(2)), Long.parseLong(call.group(3)));
                shown.add(call.group(1));
            } else if (inside) {
                Due.is("a new object: " + line, line.equals("LedgerTests x = new LedgerTests();") ? 1 : 0, 1);
            }
        }
        for (Method method : LedgerTests.class.getMethods()) {
            if (method.getDeclaringClass() == LedgerTests.class) {
                Due.is("shown: " + method.getName(), shown.contains(method.getName()) ? 1 : 0, 1);
            }
        }
    }

    private static long answer(LedgerTests x, String name, String numbers) {
        String[] told = numbers.isEmpty() ? new String[0] : numbers.split(", ");
        for (Method method : LedgerTests.class.getMethods()) {
            if (method.getName().equals(name) && method.getParameterCount() == told.length) {
                return answer(x, method, told);
            }
        }
        throw new IllegalStateException("no method " + name + " of " + told.length);
    }

    private static long answer(LedgerTests x, Method method, String[] told) {
        Object[] numbers = new Object[told.length];
        for (int i = 0; i < told.length; i++) {
            boolean isLong = method.getParameterTypes()[i] == long.class;
            numbers[i] = isLong ? (Object) Long.decode(told[i].replace("L", "")) : (Object) Integer.decode(told[i]);
        }
        try {
            return (Integer) method.invoke(x, numbers);
        } catch (ReflectiveOperationException e) {
            throw new IllegalStateException(method.getName(), e);
        }
    }

    private static void theWords(List<String> lines) {
        int rows = 0;
        for (String line : lines) {
            Matcher row = WORD.matcher(line);
            if (row.matches()) {
                LedgerTests x = new LedgerTests();
                long word = Long.decode(row.group(3));
                Due.is("letters: " + line, word, Due.word(row.group(2)));
                Due.is("line: " + line, x.line(0, word, 0, 0, 0), 1);
                Due.is("place: " + line, x.lineOf(0, 0, 0), Integer.parseInt(row.group(1)));
                Due.is("order: " + line, Integer.parseInt(row.group(1)), rows);
                rows++;
            }
        }
        Due.is("words", rows, 14);
    }
}
