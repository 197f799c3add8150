import java.io.IOException;
import java.lang.reflect.InvocationTargetException;
import java.lang.reflect.Method;
import java.nio.file.Files;
import java.nio.file.Path;
import java.util.Set;
import java.util.TreeSet;
import java.util.regex.Matcher;
import java.util.regex.Pattern;

/** README.md: its calls answer the number that stands beside them, and its table names every call. */
public final class ReadmeTest {
    private static final Pattern CALL = Pattern.compile("bench\\.(\\w+)\\(([\\d, ]*)\\); +// (-?\\d+).*");

    private ReadmeTest() {
    }

    public static void main(String[] args) throws IOException, IllegalAccessException, InvocationTargetException {
        String text = Files.readString(Path.of("README.md"));
        calls(text);
        table(text);
        Check.end();
    }

    private static void calls(String text) throws IllegalAccessException, InvocationTargetException {
        RoadBench bench = new RoadBench();
        int calls = 0;
        for (String line : text.lines().toList()) {
            Matcher call = CALL.matcher(line);
            if (call.matches()) {
                Check.due(line, answer(bench, call.group(1), call.group(2)), Long.parseLong(call.group(3)));
                calls++;
            } else {
                Check.holds("each call has its answer: " + line, !line.startsWith("bench."));
            }
        }
        Check.holds("there are calls to try", calls > 5);
    }

    private static long answer(RoadBench bench, String name, String numbers)
            throws IllegalAccessException, InvocationTargetException {
        String[] parts = numbers.isEmpty() ? new String[0] : numbers.split(", ");
        Object[] arguments = new Object[parts.length];
        for (int i = 0; i < parts.length; i++) {
            arguments[i] = Integer.valueOf(parts[i]);
        }
        for (Method m : RoadBench.class.getMethods()) {
            if (m.getName().equals(name) && m.getDeclaringClass() == RoadBench.class) {
                return ((Number) m.invoke(bench, arguments)).longValue();
            }
        }
        Check.holds("there is a call " + name, false);
        return 0;
    }

    private static void table(String text) {
        Set<String> named = new TreeSet<>();
        for (String line : text.lines().filter(l -> l.startsWith("| ")).toList()) {
            Matcher name = Pattern.compile("`(\\w+)`").matcher(line);
            while (name.find()) {
                named.add(name.group(1));
            }
        }
        Set<String> face = new TreeSet<>();
        for (Method m : RoadBench.class.getMethods()) {
            if (m.getDeclaringClass() == RoadBench.class) {
                face.add(m.getName());
            }
        }
        Check.holds("the table names every call: " + named, named.equals(face));
    }
}
