import java.io.IOException;
import java.lang.reflect.Method;
import java.lang.reflect.Modifier;
import java.nio.file.Files;
import java.nio.file.Path;
import java.util.Map;
import java.util.Set;
import java.util.TreeMap;
import java.util.TreeSet;
import java.util.regex.Matcher;
import java.util.regex.Pattern;
import java.util.stream.Stream;

/** README.md: the calls in it have the answers behind them, every call is shown, and every test is named. */
public final class ReadmeTest {
    private static final Path README = Path.of("README.md");
    private static final Path TESTS = Path.of("src/test/java");
    private static final Pattern NEW = Pattern.compile("WeldedRelays (\\w+) = new WeldedRelays\\(\\);");
    private static final Pattern CALL = Pattern.compile("(\\w+)\\.(\\w+)\\((.*)\\);\\s+// (-?\\w+):? ?.*");

    private final Due due = new Due("ReadmeTest");
    private final Map<String, WeldedRelays> objects = new TreeMap<>();
    private final Set<String> shown = new TreeSet<>();

    public static void main(String[] args) throws IOException, ReflectiveOperationException {
        ReadmeTest test = new ReadmeTest();
        test.answers();
        test.everyCallIsShown();
        test.everyTestIsNamed();
        test.due.end();
    }

    private void answers() throws IOException, ReflectiveOperationException {
        boolean isCode = false;
        for (String line : Files.readAllLines(README)) {
            if (line.startsWith("```")) {
                isCode = line.equals("```java");
            } else if (isCode) {
                answer(line);
            }
        }
    }

    private void answer(String line) throws ReflectiveOperationException {
        Matcher made = NEW.matcher(line);
        Matcher call = CALL.matcher(line);
        if (made.matches()) {
            objects.put(made.group(1), new WeldedRelays());
        } else if (call.matches() && objects.containsKey(call.group(1))) {
            shown.add(call.group(2));
            due.is(line, answerOf(objects.get(call.group(1)), call.group(2), call.group(3)), number(call.group(4)));
        } else {
            due.is("a line that is no call with its answer: " + line, 1, 0);
        }
    }

    private static int answerOf(WeldedRelays x, String name, String text) throws ReflectiveOperationException {
        String[] words = text.isEmpty() ? new String[0] : text.split(", ");
        for (Method method : WeldedRelays.class.getDeclaredMethods()) {
            if (method.getName().equals(name) && method.getParameterCount() == words.length) {
                return (int) method.invoke(x, arguments(method, words));
            }
        }
        throw new NoSuchMethodException(name);
    }

    private static Object[] arguments(Method method, String[] words) {
        Object[] arguments = new Object[words.length];
        for (int i = 0; i < words.length; i++) {
            Class<?> type = method.getParameterTypes()[i];
            arguments[i] = type == boolean.class ? (Object) Boolean.valueOf(words[i])
                    : type == long.class ? (Object) Long.decode(words[i].replace("L", ""))
                    : (Object) Integer.decode(words[i]);
        }
        return arguments;
    }

    private static int number(String word) throws ReflectiveOperationException {
        boolean isNumber = word.matches("-?\\d+");
        return isNumber ? Integer.parseInt(word) : WeldedRelays.class.getField(word).getInt(null);
    }

    private void everyCallIsShown() {
        for (Method method : WeldedRelays.class.getDeclaredMethods()) {
            boolean isHidden = Modifier.isPrivate(method.getModifiers());
            due.is(method.getName() + " is shown", isHidden || shown.contains(method.getName()) ? 1 : 0, 1);
        }
    }

    private void everyTestIsNamed() throws IOException {
        String readme = Files.readString(README);
        try (Stream<Path> files = Files.list(TESTS)) {
            for (String file : (Iterable<String>) files.map(path -> path.getFileName().toString())::iterator) {
                String name = file.replace(".java", "");
                due.is(name + " is named", readme.contains("`" + name + "`") ? 1 : 0, 1);
            }
        }
        Matcher row = Pattern.compile("(?m)^\\| `(\\w+)`").matcher(readme);
        while (row.find()) {
            due.is(row.group(1) + " is there", Files.exists(TESTS.resolve(row.group(1) + ".java")) ? 1 : 0, 1);
        }
    }
}
