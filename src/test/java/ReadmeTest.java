import java.io.IOException;
import java.lang.reflect.InvocationTargetException;
import java.lang.reflect.Method;
import java.nio.file.Files;
import java.nio.file.Path;
import java.util.HashSet;
import java.util.Set;
import java.util.regex.Matcher;
import java.util.regex.Pattern;

/** README.md: each call of its example has the answer that stands behind it, and none of the face is missing. */
final class ReadmeTest {
    private static final Pattern CALL = Pattern.compile("x\\.(\\w+)\\((.*)\\); +// (throws \\w+|\\w+)(: .*)?");

    private ReadmeTest() {
    }

    public static void main(String[] args) throws IOException {
        IsaForge x = new IsaForge();
        Set<String> called = new HashSet<>();
        for (String line : Files.readAllLines(Path.of("README.md"))) {
            Matcher call = CALL.matcher(line);
            if (call.matches()) {
                called.add(call.group(1));
                Checks.same(line, due(call.group(3)), answer(x, methodNamed(call.group(1)), call.group(2)));
            } else {
                Checks.same("a call without an answer: " + line, false, line.startsWith("x."));
            }
        }
        for (Method method : IsaForge.class.getMethods()) {
            if (method.getDeclaringClass() == IsaForge.class) {
                Checks.same("the example calls " + method.getName(), true, called.contains(method.getName()));
            }
        }
        Checks.finish();
    }

    private static Method methodNamed(String name) {
        for (Method method : IsaForge.class.getMethods()) {
            if (method.getName().equals(name)) {
                return method;
            }
        }
        throw new IllegalArgumentException(name);
    }

    private static String due(String written) {
        return Character.isDigit(written.charAt(0)) ? Long.decode(written).toString() : written;
    }

    private static String answer(IsaForge x, Method method, String written) {
        String[] parts = written.isEmpty() ? new String[0] : written.split(", ");
        Object[] values = new Object[parts.length];
        for (int i = 0; i < parts.length; i++) {
            long value = Long.decode(parts[i]);
            boolean isLong = method.getParameterTypes()[i] == long.class;
            values[i] = isLong ? (Object) value : (Object) (int) value;
        }
        try {
            return method.invoke(x, values).toString();
        } catch (InvocationTargetException e) {
            return "throws " + e.getCause().getClass().getSimpleName();
        } catch (IllegalAccessException e) {
            return e.toString();
        }
    }
}
