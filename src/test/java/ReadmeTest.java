import java.lang.reflect.InvocationTargetException;
import java.lang.reflect.Method;
import java.lang.reflect.Modifier;
import java.nio.file.Files;
import java.nio.file.Path;
import java.util.HashMap;
import java.util.Map;
import java.util.Set;
import java.util.TreeSet;
import java.util.regex.Matcher;
import java.util.regex.Pattern;

/** The calls that README.md shows answer what it says behind them; it takes the source's path. */
public final class ReadmeTest {
    private static final Pattern CALL =
            Pattern.compile("int (\\w+) = house\\.(\\w+)\\(([^)]*)\\); +// (-?\\d+|throws \\w+)\\b.*");

    private final RoughStones house = new RoughStones();
    private final Map<String, Long> named = new HashMap<>();
    private final Set<String> called = new TreeSet<>();

    public static void main(String[] args) throws Exception {
        if (args.length == 0) {
            Check.fail("the source's path lacks");
            Check.end();
        }
        Path project = Path.of(args[0]).toAbsolutePath().getParent().resolve("../../..");
        new ReadmeTest().follow(Files.readString(project.resolve("README.md")));
        Check.end();
    }

    private void follow(String readme) throws IllegalAccessException {
        int begin = readme.indexOf("```java\n");
        String shown = begin < 0 ? "" : readme.substring(begin + 8, readme.indexOf("```", begin + 8));
        for (String line : shown.split("\n")) {
            Matcher call = CALL.matcher(line);
            if (call.matches()) {
                Check.due(line.trim() + " answers as it says", answer(call).equals(call.group(4)) ? 1 : 0, 1);
                called.add(call.group(2));
            } else if (line.contains("house.")) {
                Check.fail("a call without its answer: " + line);
            }
        }
        for (Method method : RoughStones.class.getDeclaredMethods()) {
            boolean open = Modifier.isPublic(method.getModifiers());
            Check.due("README shows " + method.getName(), !open || called.contains(method.getName()) ? 1 : 0, 1);
        }
    }

    private String answer(Matcher call) throws IllegalAccessException {
        Method method = methodOf(call.group(2));
        String[] given = call.group(3).isBlank() ? new String[0] : call.group(3).split(", *");
        if (method == null || method.getParameterCount() != given.length) {
            return "no such call";
        }
        Object[] arguments = new Object[given.length];
        for (int k = 0; k < given.length; k++) {
            long number = numberOf(given[k]);
            arguments[k] = method.getParameterTypes()[k] == long.class ? (Object) number : (Object) (int) number;
        }
        try {
            int got = (Integer) method.invoke(house, arguments);
            named.put(call.group(1), (long) got);
            return "" + got;
        } catch (InvocationTargetException thrown) {
            return "throws " + thrown.getCause().getClass().getSimpleName();
        }
    }

    private static Method methodOf(String name) {
        for (Method method : RoughStones.class.getDeclaredMethods()) {
            if (method.getName().equals(name)) {
                return method;
            }
        }
        return null;
    }

    private long numberOf(String text) {
        if (named.containsKey(text)) {
            return named.get(text);
        }
        return text.startsWith("0b") ? Long.parseLong(text.substring(2), 2) : Long.decode(text);
    }
}
