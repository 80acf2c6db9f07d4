import java.io.IOException;
import java.lang.reflect.InvocationTargetException;
import java.lang.reflect.Method;
import java.lang.reflect.Modifier;
import java.nio.file.Files;
import java.nio.file.Path;
import java.util.HashMap;
import java.util.Map;
import java.util.regex.Matcher;
import java.util.regex.Pattern;

/** What README.md shows is so: its calls, made in their order on one object, answer what stands behind them. */
public final class ReadmeTest {
    private static final Pattern CALL = Pattern.compile(
            "^(?:int (\\w+) = )?x\\.(\\w+)\\(([^)]*)\\);\\s+// (-?\\d+|true|false)\\b.*$");

    private ReadmeTest() {
    }

    public static void main(String[] args) throws IOException, ReflectiveOperationException {
        String page = Files.readString(Path.of(System.getProperty("readme", "README.md")));
        RolledOut x = new RolledOut();
        Map<String, Integer> named = new HashMap<>();
        named.put("NONE", RolledOut.NONE);
        boolean inside = false;
        for (String line : page.split("\n")) {
            if (line.startsWith("```")) {
                inside = line.equals("```java");
            } else if (inside && !line.startsWith("RolledOut x = new RolledOut();")) {
                shown(x, line, named);
            }
        }
        for (Method method : RolledOut.class.getDeclaredMethods()) {
            if (Modifier.isPublic(method.getModifiers())) {
                Due.is("README.md names " + method.getName(), page.contains("`" + method.getName() + "`"), true);
            }
        }
        Due.end("ReadmeTest");
    }

    private static void shown(RolledOut x, String line, Map<String, Integer> named)
            throws ReflectiveOperationException {
        Matcher call = CALL.matcher(line);
        if (!call.matches()) {
            Due.is("a line that can be tried: " + line, false, true);
            return;
        }
        String[] given = call.group(3).isEmpty() ? new String[0] : call.group(3).split(", ");
        int got = answer(x, call.group(2), given, named);
        String want = call.group(4);
        Due.is(line, got, want.equals("true") ? 1 : want.equals("false") ? 0 : Integer.parseInt(want));
        if (call.group(1) != null) {
            named.put(call.group(1), got);
        }
    }

    private static int answer(RolledOut x, String name, String[] given, Map<String, Integer> named)
            throws IllegalAccessException, InvocationTargetException, NoSuchMethodException {
        for (Method method : RolledOut.class.getMethods()) {
            if (method.getName().equals(name)) {
                Object[] taken = new Object[given.length];
                for (int i = 0; i < given.length; i++) {
                    taken[i] = value(given[i], named);
                }
                Object got = method.invoke(x, taken);
                return got instanceof Boolean yes ? (yes ? 1 : 0) : (Integer) got;
            }
        }
        throw new NoSuchMethodException(name);
    }

    private static Object value(String given, Map<String, Integer> named) {
        if (given.equals("true") || given.equals("false")) {
            return given.equals("true");
        }
        return named.containsKey(given) ? named.get(given) : Integer.decode(given);
    }
}
