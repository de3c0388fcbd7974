import java.io.IOException;
import java.lang.reflect.InvocationTargetException;
import java.lang.reflect.Method;
import java.lang.reflect.Modifier;
import java.nio.file.Files;
import java.nio.file.Path;
import java.util.regex.Matcher;
import java.util.regex.Pattern;

/** README.md answers for itself: its example is run, its tables are compared with the class's face. */
public final class ReadmeTest {
    private static final Pattern CALL = Pattern.compile("^board\\.(\\w+)\\(([^)]*)\\);\\s*// (-?\\d+)(:.*)?$");
    private static final Pattern ROW = Pattern.compile("^\\| `(\\w+)\\(([^)]*)\\)` \\| ([^|]+) \\|([^|]*)\\|$");

    private ReadmeTest() {
    }

    public static void main(String[] args) throws IOException, ReflectiveOperationException {
        String page = Files.readString(Path.of("README.md"));
        exampleAnswersAsItSays(page);
        tablesNameEachCall(page);
        constantsAreAsTold(page);
        testsAreNamed(page);
        Due.end();
    }

    private static void exampleAnswersAsItSays(String page) throws ReflectiveOperationException {
        SwitchboardHeart board = new SwitchboardHeart();
        int calls = 0;
        for (String line : page.split("\n")) {
            if (!line.startsWith("board.")) {
                continue;
            }
            Matcher call = CALL.matcher(line);
            Due.dueTrue("a call with its answer: " + line, call.matches());
            if (call.matches()) {
                Due.due("README.md: " + line, answer(board, call.group(1), call.group(2)), Long.parseLong(call.group(3)));
                calls++;
            }
        }
        Due.dueTrue("README.md shows calls", calls > 20);
    }

    private static long answer(SwitchboardHeart board, String name, String told) throws ReflectiveOperationException {
        Method method = methodNamed(name);
        String[] parts = told.isEmpty() ? new String[0] : told.split(", ");
        Object[] values = new Object[parts.length];
        for (int i = 0; i < parts.length; i++) {
            long value = parts[i].startsWith("'") ? parts[i].charAt(1) : Long.parseLong(parts[i]);
            values[i] = method.getParameterTypes()[i] == long.class ? (Object) value : (Object) (int) value;
        }
        try {
            return ((Number) method.invoke(board, values)).longValue();
        } catch (InvocationTargetException e) {
            throw new IllegalStateException(name + "(" + told + ") threw", e.getCause());
        }
    }

    private static Method methodNamed(String name) {
        for (Method method : SwitchboardHeart.class.getDeclaredMethods()) {
            if (Modifier.isPublic(method.getModifiers()) && method.getName().equals(name)) {
                return method;
            }
        }
        throw new IllegalStateException("README.md calls " + name + ", which is not there");
    }

    private static void tablesNameEachCall(String page) {
        int rows = 0;
        for (String line : page.split("\n")) {
            Matcher row = ROW.matcher(line);
            if (row.matches()) {
                rows++;
                int parts = row.group(2).isEmpty() ? 0 : row.group(2).split(", ").length;
                Due.due("parameters of " + row.group(1), parts, methodNamed(row.group(1)).getParameterCount());
            }
        }
        int calls = 0;
        for (Method method : SwitchboardHeart.class.getDeclaredMethods()) {
            if (Modifier.isPublic(method.getModifiers())) {
                calls++;
                Due.dueTrue("README.md tells of " + method.getName(), page.contains("\n| `" + method.getName() + "("));
            }
        }
        Due.due("rows of README.md's tables", rows, calls);
    }

    private static void constantsAreAsTold(String page) {
        told(page, "BAD", SwitchboardHeart.BAD);
        told(page, "NOT", SwitchboardHeart.NOT);
        told(page, "FULL", SwitchboardHeart.FULL);
        told(page, "STATE", SwitchboardHeart.STATE);
        told(page, "VOID", SwitchboardHeart.VOID);
    }

    private static void told(String page, String name, int value) {
        Due.dueTrue(name + " is told as " + value, page.contains("\n| `" + name + "`, " + value + " |"));
    }

    private static void testsAreNamed(String page) throws IOException {
        try (var files = Files.list(Path.of("src/test/java"))) {
            for (Path file : files.toList()) {
                String name = file.getFileName().toString().replace(".java", "");
                if (name.endsWith("Test")) {
                    Due.dueTrue("README.md names " + name, page.contains("`" + name + "`"));
                }
            }
        }
    }
}
