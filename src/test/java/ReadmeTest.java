import java.io.IOException;
import java.lang.reflect.InvocationTargetException;
import java.lang.reflect.Method;
import java.lang.reflect.Modifier;
import java.nio.file.Files;
import java.nio.file.Path;
import java.util.ArrayList;
import java.util.HashMap;
import java.util.List;
import java.util.Map;
import java.util.regex.Matcher;
import java.util.regex.Pattern;

/** README.md: the example answers as it tells, and each call has one row with what it throws, in its order. */
public final class ReadmeTest {
    private static final Pattern CALL =
        Pattern.compile("(?:int (\\w+) = )?plan\\.(\\w+)\\(([^)]*)\\); +// ([^ :;]+).*");
    private static final Pattern ROW = Pattern.compile("\\| `(\\w+)\\(([^)]*)\\)` \\|(.*)\\|(.*)\\|");
    private static final Map<String, String> NAMES = Map.of("NoSuch", "NoSuchElementException",
        "Argument", "IllegalArgumentException", "Index", "IndexOutOfBoundsException",
        "State", "IllegalStateException", "Unsupported", "UnsupportedOperationException",
        "Arithmetic", "ArithmeticException");

    public static void main(String[] args) throws IOException {
        List<String> lines = Files.readAllLines(Path.of("README.md"));
        example(lines);
        rows(lines);
        Check.end();
    }

    private static void example(List<String> lines) {
        Simplespan plan = new Simplespan();
        Map<String, Object> known = new HashMap<>();
        int calls = 0;
        for (String line : lines) {
            Matcher call = CALL.matcher(line);
            if (call.matches()) {
                calls++;
                Object answer = answer(plan, call.group(2), call.group(3), known);
                Check.same(line, call.group(4), String.valueOf(answer));
                if (call.group(1) != null) {
                    known.put(call.group(1), answer);
                }
            }
        }
        long told = lines.stream().filter(line -> line.contains("plan.")).count();
        Check.same("calls of the example", "" + told, "" + calls);
    }

    private static Object answer(Simplespan plan, String name, String given, Map<String, Object> known) {
        List<Object> numbers = new ArrayList<>();
        for (String word : given.isEmpty() ? new String[0] : given.split(", ")) {
            numbers.add(known.containsKey(word) ? known.get(word) : Integer.valueOf(word));
        }
        try {
            return methodOf(name).invoke(plan, numbers.toArray());
        } catch (InvocationTargetException e) {
            return "throws." + e.getCause().getClass().getSimpleName();
        } catch (IllegalAccessException e) {
            throw new IllegalStateException("the face is hidden", e);
        }
    }

    private static Method methodOf(String name) {
        for (Method method : Simplespan.class.getDeclaredMethods()) {
            if (Modifier.isPublic(method.getModifiers()) && method.getName().equals(name)) {
                return method;
            }
        }
        throw new IllegalStateException("there is no " + name);
    }

    private static void rows(List<String> lines) {
        Map<String, Integer> seen = new HashMap<>();
        for (String line : lines) {
            Matcher row = ROW.matcher(line);
            if (row.matches()) {
                Method method = methodOf(row.group(1));
                seen.merge(row.group(1), 1, Integer::sum);
                int given = row.group(2).isEmpty() ? 0 : row.group(2).split(", ").length;
                Check.same(row.group(1) + ": arguments", "" + method.getParameterCount(), "" + given);
                Check.same(row.group(1) + ": exceptions", thrownBy(method), thrownIn(row.group(4)));
            }
        }
        for (Method method : Simplespan.class.getDeclaredMethods()) {
            if (Modifier.isPublic(method.getModifiers())) {
                Check.same("rows of " + method.getName(), "1", "" + seen.get(method.getName()));
            }
        }
    }

    private static String thrownBy(Method method) {
        List<String> names = new ArrayList<>();
        for (Class<?> type : method.getExceptionTypes()) {
            names.add(type.getSimpleName());
        }
        return names.toString();
    }

    private static String thrownIn(String cell) {
        List<String> names = new ArrayList<>();
        for (String part : cell.trim().isEmpty() ? new String[0] : cell.trim().split("; ")) {
            names.add(String.valueOf(NAMES.get(part.substring(0, Math.max(0, part.indexOf(':'))))));
        }
        return names.toString();
    }
}
