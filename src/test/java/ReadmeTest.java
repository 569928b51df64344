import java.io.IOException;
import java.lang.reflect.InvocationTargetException;
import java.lang.reflect.Method;
import java.lang.reflect.Modifier;
import java.nio.file.Files;
import java.nio.file.Path;
import java.util.ArrayList;
import java.util.List;
import java.util.TreeSet;
import java.util.regex.Matcher;
import java.util.regex.Pattern;

/** README.md tells every call of the class with what it throws, and its example answers what it says. */
public final class ReadmeTest {
    private static final String SOURCE = "README.md";
    private static final Pattern ROW = Pattern.compile("\\| `(\\w+)\\(([^)]*)\\)` \\|([^|]+)\\|([^|]*)\\|");
    private static final Pattern THROWN = Pattern.compile("\\b(Index|Argument|State):");
    private static final Pattern STEP = Pattern.compile("buses\\.(\\w+)\\(([-\\d, ]*)\\); +// (?:throws (\\w+)|(-?\\d+)):.*");

    public static void main(String[] args) throws IOException {
        List<String> lines = Files.readAllLines(Path.of(SOURCE));
        Check.dueText("the calls", rows(lines).toString(), calls().toString());
        Check.due("steps of the example that are looked at", example(lines), 10);
        Check.due("the 512 calls are told", String.join(" ", lines).contains("at most 512 calls") ? 1 : 0, 1);
        Check.finish();
    }

    private static TreeSet<String> rows(List<String> lines) {
        TreeSet<String> found = new TreeSet<>();
        for (String line : lines) {
            Matcher row = ROW.matcher(line);
            if (row.matches()) {
                StringBuilder text = new StringBuilder(row.group(1)).append(' ').append(numbersOf(row.group(2)).size());
                Matcher thrown = THROWN.matcher(row.group(4));
                while (thrown.find()) {
                    text.append(' ').append(thrown.group(1));
                }
                Check.due("a row more for " + text, found.add(text.toString()) ? 0 : 1, 0);
            }
        }
        return found;
    }

    private static TreeSet<String> calls() {
        TreeSet<String> found = new TreeSet<>();
        for (Method method : BusBlocks.class.getDeclaredMethods()) {
            if (Modifier.isPublic(method.getModifiers())) {
                StringBuilder text = new StringBuilder(method.getName()).append(' ').append(method.getParameterCount());
                for (Class<?> thrown : method.getExceptionTypes()) {
                    text.append(' ').append(thrown.getSimpleName().replaceAll("OutOf.*|Illegal|Exception", ""));
                }
                found.add(text.toString());
            }
        }
        return found;
    }

    private static List<String> numbersOf(String list) {
        List<String> found = new ArrayList<>();
        for (String each : list.split(",")) {
            if (!each.isBlank()) {
                found.add(each.strip());
            }
        }
        return found;
    }

    private static int example(List<String> lines) {
        BusBlocks buses = new BusBlocks();
        int steps = 0;
        for (String line : lines) {
            Matcher step = STEP.matcher(line);
            if (step.matches()) {
                steps++;
                String due = step.group(3) == null ? step.group(4) : step.group(3);
                Check.dueText(line, outcome(buses, step.group(1), numbersOf(step.group(2))), due);
            }
        }
        return steps;
    }

    private static String outcome(BusBlocks buses, String name, List<String> numbers) {
        Class<?>[] types = new Class<?>[numbers.size()];
        Object[] values = new Object[numbers.size()];
        for (int place = 0; place < values.length; place++) {
            types[place] = int.class;
            values[place] = Integer.valueOf(numbers.get(place));
        }
        try {
            return String.valueOf(BusBlocks.class.getMethod(name, types).invoke(buses, values));
        } catch (InvocationTargetException thrown) {
            return thrown.getCause().getClass().getSimpleName();
        } catch (ReflectiveOperationException none) {
            return "no such call";
        }
    }
}
