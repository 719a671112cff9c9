import java.io.IOException;
import java.lang.reflect.InvocationTargetException;
import java.lang.reflect.Method;
import java.nio.file.Files;
import java.nio.file.Path;
import java.util.HashMap;
import java.util.Map;
import java.util.Set;
import java.util.TreeSet;
import java.util.regex.Matcher;
import java.util.regex.Pattern;

/**
 * What README.md shows of the class's use: each line of its Java examples is made or called here,
 * and answers what stands behind it: a number or an exception, then maybe a colon and words.
 */
public final class ReadmeTest {
    private static final Path README = Path.of("README.md");
    private static final Pattern EXAMPLE = Pattern.compile("(?ms)^```java\\n(.*?)^```$");
    private static final Pattern MAKING = Pattern.compile("TourHouse (\\w+) = new TourHouse\\(\\);");
    private static final Pattern CALL =
        Pattern.compile("(\\w+)\\.(\\w+)\\(([^()]*)\\);\\s*// (-?\\d+|throws \\w+)(: .+)?");

    private final Map<String, TourHouse> houses = new HashMap<>();
    private final Set<String> shown = new TreeSet<>();

    public static void main(String[] args) throws IOException, IllegalAccessException {
        ReadmeTest test = new ReadmeTest();
        Matcher example = EXAMPLE.matcher(Files.readString(README));
        while (example.find()) {
            test.houses.clear();
            for (String line : example.group(1).split("\n")) {
                test.doLine(line.trim());
            }
        }
        Checks.due("the calls that README.md shows", test.shown, publicCalls());
        Checks.finish();
    }

    private static Set<String> publicCalls() {
        Set<String> names = new TreeSet<>();
        for (Method m : TourHouse.class.getMethods()) {
            if (m.getDeclaringClass() == TourHouse.class) {
                names.add(m.getName());
            }
        }
        return names;
    }

    private void doLine(String line) throws IllegalAccessException {
        Matcher making = MAKING.matcher(line);
        Matcher call = CALL.matcher(line);
        if (making.matches()) {
            houses.put(making.group(1), new TourHouse());
        } else if (call.matches() && houses.containsKey(call.group(1))) {
            shown.add(call.group(2));
            Checks.due("README.md: " + line, answer(houses.get(call.group(1)), call.group(2), call.group(3)), call.group(4));
        } else if (!line.isEmpty()) {
            Checks.due("README.md: " + line, "is no call with its answer", "a call with its answer");
        }
    }

    private static String answer(TourHouse house, String name, String arguments) throws IllegalAccessException {
        String[] written = arguments.isBlank() ? new String[0] : arguments.trim().split("\\s*,\\s*");
        for (Method m : TourHouse.class.getMethods()) {
            if (m.getName().equals(name) && m.getParameterCount() == written.length) {
                try {
                    return String.valueOf(m.invoke(house, values(m.getParameterTypes(), written)));
                } catch (InvocationTargetException e) {
                    return "throws " + e.getCause().getClass().getSimpleName();
                }
            }
        }
        return "no such call";
    }

    private static Object[] values(Class<?>[] types, String[] written) {
        Object[] values = new Object[written.length];
        for (int i = 0; i < written.length; i++) {
            values[i] = types[i] == boolean.class ? (Object) Boolean.valueOf(written[i]) : Integer.valueOf(written[i]);
        }
        return values;
    }
}
