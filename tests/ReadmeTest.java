import java.io.IOException;
import java.lang.reflect.InvocationTargetException;
import java.lang.reflect.Method;
import java.nio.file.Files;
import java.nio.file.Path;
import java.util.regex.Matcher;
import java.util.regex.Pattern;

/** The example of README.md answers what is written behind its calls. */
public final class ReadmeTest {
    private static final Path README = Path.of("README.md");
    private static final Pattern CALL = Pattern.compile(
        "hall\\.(\\w+)\\(([^)]*)\\); *// (throws \\w+|'.'|-?\\d+)(, .*)?");
    private static final int CALLS = 30;

    private static Object read(String argument, Class<?> type) {
        if (type == boolean.class) {
            return Boolean.valueOf(argument);
        }
        if (type == long.class) {
            return Long.decode(argument.replace("L", ""));
        }
        return Integer.decode(argument);
    }

    private static String answer(Ballothall hall, String name, String[] arguments) throws IllegalAccessException {
        for (Method method : Ballothall.class.getMethods()) {
            if (method.getName().equals(name) && method.getParameterCount() == arguments.length) {
                Object[] values = new Object[arguments.length];
                for (int i = 0; i < values.length; i++) {
                    values[i] = read(arguments[i], method.getParameterTypes()[i]);
                }
                try {
                    return String.valueOf(method.invoke(hall, values));
                } catch (InvocationTargetException e) {
                    return "throws " + e.getCause().getClass().getSimpleName();
                }
            }
        }
        return "there is no such call";
    }

    public static void main(String[] arguments) throws IOException, IllegalAccessException {
        Check check = new Check("ReadmeTest");
        String readme = Files.readString(README);
        int start = readme.indexOf("```java\n");
        int end = readme.indexOf("```", start + 1);
        check.same("there is an example", start >= 0 && end > start, true);
        Ballothall hall = new Ballothall();
        int calls = 0;
        for (String line : readme.substring(start + 8, end).split("\n")) {
            if (line.isEmpty() || line.startsWith("// ") || line.equals("Ballothall hall = new Ballothall();")) {
                continue;
            }
            Matcher call = CALL.matcher(line);
            boolean isCall = call.matches();
            check.same("\"" + line + "\" is a call with its answer", isCall, true);
            if (isCall) {
                String due = call.group(3).startsWith("'") ? "" + (int) call.group(3).charAt(1) : call.group(3);
                String[] values = call.group(2).isEmpty() ? new String[0] : call.group(2).split(", ");
                check.same(line, answer(hall, call.group(1), values), due);
                calls++;
            }
        }
        check.same("a few calls", calls >= CALLS, true);
        check.end();
    }
}
