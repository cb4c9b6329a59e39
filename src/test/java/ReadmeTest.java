import java.io.IOException;
import java.lang.reflect.Method;
import java.nio.file.Files;
import java.nio.file.Path;
import java.util.regex.Matcher;
import java.util.regex.Pattern;

/** The calls that README.md shows answer what it says there. */
public final class ReadmeTest {
    private static final Pattern CALL = Pattern.compile("x\\.(\\w+)\\((.*)\\); +// (-?\\d+)\\b.*");
    private static final int FEWEST_CALLS = 20;

    private ReadmeTest() {
    }

    public static void main(String[] args) throws IOException, ReflectiveOperationException {
        Check check = new Check();
        ColumnPages x = new ColumnPages();
        int calls = 0;
        for (String line : Files.readAllLines(Path.of("README.md"))) {
            Matcher call = CALL.matcher(line);
            if (call.matches()) {
                String[] told = call.group(2).isEmpty() ? new String[0] : call.group(2).split(", ");
                check.due(line, answer(x, call.group(1), told), Long.parseLong(call.group(3)));
                calls++;
            }
        }
        check.due("calls with answers in README.md", calls >= FEWEST_CALLS ? 1 : 0, 1);
        check.end("ReadmeTest");
    }

    private static long answer(ColumnPages x, String name, String[] told) throws ReflectiveOperationException {
        for (Method method : ColumnPages.class.getMethods()) {
            if (method.getName().equals(name) && method.getDeclaringClass() == ColumnPages.class) {
                Object[] values = new Object[told.length];
                for (int i = 0; i < told.length; i++) {
                    values[i] = value(method.getParameterTypes()[i], told[i]);
                }
                return ((Number) method.invoke(x, values)).longValue();
            }
        }
        throw new IllegalArgumentException("no such call: " + name);
    }

    private static Object value(Class<?> type, String told) {
        if (type == boolean.class) {
            return Boolean.valueOf(told);
        }
        return type == long.class ? (Object) Long.decode(told) : (Object) Integer.decode(told);
    }
}
