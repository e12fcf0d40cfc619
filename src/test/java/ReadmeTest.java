import java.io.IOException;
import java.lang.reflect.InvocationTargetException;
import java.lang.reflect.Method;
import java.nio.file.Files;
import java.nio.file.Path;
import java.util.regex.Matcher;
import java.util.regex.Pattern;

/** README.md's lines of Java answer as is told behind them. Run from the checkout. */
public final class ReadmeTest {
    private static final Pattern CALL = Pattern.compile("roads\\.(\\w+)\\(([^)]*)\\); +// (-?\\d+)(:.*)?");
    private static final Checks C = new Checks();

    public static void main(String[] args) throws IOException, ReflectiveOperationException {
        String page = Files.readString(Path.of("README.md"));
        int start = page.indexOf("```java\n") + "```java\n".length();
        StoneRoads roads = new StoneRoads();
        int calls = 0;
        for (String line : page.substring(start, page.indexOf("```", start)).split("\n")) {
            Matcher call = CALL.matcher(line);
            if (call.matches()) {
                C.due(line, answer(roads, call.group(1), call.group(2)), Long.parseLong(call.group(3)));
                calls++;
            } else {
                boolean isOther = line.isEmpty() || line.startsWith("//") || line.endsWith("= new StoneRoads();");
                C.due("a line that isn't read: " + line, isOther ? 1 : 0, 1);
            }
        }
        C.due("there are calls", calls > 0 ? 1 : 0, 1);
        C.finish();
    }

    private static long answer(StoneRoads roads, String name, String told)
            throws IllegalAccessException, InvocationTargetException {
        String[] parts = told.isEmpty() ? new String[0] : told.split(",(?!') *");
        for (Method method : StoneRoads.class.getMethods()) {
            Class<?>[] types = method.getParameterTypes();
            if (method.getName().equals(name) && types.length == parts.length) {
                Object[] given = new Object[parts.length];
                for (int k = 0; k < parts.length; k++) {
                    given[k] = given(parts[k], types[k]);
                }
                return ((Number) method.invoke(roads, given)).longValue();
            }
        }
        throw new IllegalStateException("no call " + name + "(" + told + ")");
    }

    /** A number, or a sign between quotes. */
    private static Object given(String part, Class<?> type) {
        long n = part.charAt(0) == '\'' ? part.charAt(1) : Long.parseLong(part);
        if (type == int.class) {
            return (int) n;
        }
        return n;
    }
}
