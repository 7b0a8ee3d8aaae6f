import com.sun.management.ThreadMXBean;
import java.io.IOException;
import java.io.PrintWriter;
import java.io.StringWriter;
import java.lang.management.ManagementFactory;
import java.lang.reflect.Constructor;
import java.lang.reflect.Field;
import java.lang.reflect.Method;
import java.lang.reflect.Modifier;
import java.nio.file.Files;
import java.nio.file.Path;
import java.util.ArrayList;
import java.util.Arrays;
import java.util.List;
import java.util.Map;
import java.util.Set;
import java.util.TreeMap;
import java.util.TreeSet;
import java.util.regex.Matcher;
import java.util.regex.Pattern;
import java.util.spi.ToolProvider;

/** The face of the class and the rules of LANGUAGE.md that a program can look at. */
public final class LanguageTest {
    private static final Path SOURCE = Path.of("src/main/java/WeldedRelays.java");
    private static final String[] FACE = {
        "int time(int,boolean,int)", "int life(int)", "int read()", "int press(int,boolean)",
        "int weld(int,boolean)", "int pass(int)", "int settle()", "int relay(int,int)",
        "int branch(int,int,int)", "int count(int)", "int ifPressed(int,int)", "int rest(int,int)",
        "int race(int)", "int ifWelded(int,int)", "int unsafe(int)", "int reach(int)", "int put(long)",
        "int wipe()", "int fault()", "int undo()", "int save(int)", "int restore(int)",
    };
    private static final String[] CONSTANTS = {
        "NO_SUCH", "BAD_VALUE", "BAD_TEXT", "TOO_MANY", "NOT_POSSIBLE", "NONE",
    };
    private static final String RULED_OUT = "\\b(throw|throws|try|catch|finally|synchronized|assert|import|package"
            + "|volatile|native|var|equals|hashCode|toString|protected|\\w+Exact|random|currentTimeMillis|nanoTime)\\b"
            + "|->|::";

    public static void main(String[] args) throws IOException {
        Due due = new Due("LanguageTest");
        face(due);
        classesInside(due);
        words(due);
        lengths(due);
        depths(due);
        noObjects(due);
        due.end();
    }

    private static void face(Due due) {
        due.is("public final", WeldedRelays.class.getModifiers(), Modifier.PUBLIC | Modifier.FINAL);
        Set<String> methods = new TreeSet<>();
        Set<String> names = new TreeSet<>();
        for (Method method : WeldedRelays.class.getDeclaredMethods()) {
            if (!Modifier.isPrivate(method.getModifiers())) {
                methods.add(method.toString().replace("public ", "").replace("WeldedRelays.", ""));
                names.add(method.getName());
            }
        }
        same(due, "methods", methods, FACE);
        for (Class<?> inside : WeldedRelays.class.getDeclaredClasses()) {
            for (Method method : inside.getDeclaredMethods()) {
                due.is(method + " has no public one's name", names.contains(method.getName()) ? 1 : 0, 0);
            }
        }
        for (Method method : WeldedRelays.class.getDeclaredMethods()) {
            boolean isHidden = Modifier.isPrivate(method.getModifiers());
            due.is(method + " has no public one's name", isHidden && names.contains(method.getName()) ? 1 : 0, 0);
        }
        Set<String> constants = new TreeSet<>();
        for (Field field : WeldedRelays.class.getDeclaredFields()) {
            if (!Modifier.isPrivate(field.getModifiers())) {
                constants.add(field.getName());
                int isConstant = Modifier.PUBLIC | Modifier.STATIC | Modifier.FINAL;
                due.is(field.getName(), field.getModifiers(), isConstant);
            }
        }
        same(due, "constants", constants, CONSTANTS);
        Constructor<?>[] constructors = WeldedRelays.class.getDeclaredConstructors();
        due.is("constructors", constructors.length, 1);
        due.is("constructor without arguments", constructors[0].getParameterCount(), 0);
        due.is("public constructor", constructors[0].getModifiers(), Modifier.PUBLIC);
    }

    private static void same(Due due, String what, Set<String> got, String[] want) {
        boolean isSame = got.equals(new TreeSet<>(Arrays.asList(want)));
        due.is(what + " " + got, isSame ? 1 : 0, 1);
    }

    private static void classesInside(Due due) {
        Class<?>[] inside = WeldedRelays.class.getDeclaredClasses();
        due.is("at most some twelve classes", inside.length < 12 ? 1 : 0, 1);
        for (Class<?> one : inside) {
            due.is(one + " is static", Modifier.isStatic(one.getModifiers()) ? 1 : 0, 1);
            due.is(one + " is not public", Modifier.isPublic(one.getModifiers()) ? 1 : 0, 0);
            long fields = Arrays.stream(one.getDeclaredFields())
                    .filter(field -> !Modifier.isStatic(field.getModifiers())).count();
            due.is(one + " has at most twenty fields", fields <= 20 ? 1 : 0, 1);
            for (Field field : one.getDeclaredFields()) {
                boolean isState = Modifier.isStatic(field.getModifiers()) && !Modifier.isFinal(field.getModifiers());
                due.is(field + " is no static state", isState ? 1 : 0, 0);
            }
        }
    }

    private static void words(Due due) throws IOException {
        String code = Files.readString(SOURCE).replaceAll("(?s)/\\*.*?\\*/", "").replaceAll("//.*", "");
        Matcher matcher = Pattern.compile(RULED_OUT).matcher(code);
        while (matcher.find()) {
            due.is("the word " + matcher.group(), 1, 0);
        }
        due.is("signs 1 to 127", code.chars().allMatch(sign -> sign < 128) ? 1 : 0, 1);
    }

    private static void lengths(Due due) throws IOException {
        String start = "";
        int length = 0;
        for (String line : Files.readAllLines(SOURCE)) {
            if (line.matches(" {4,8}\\S.*\\) \\{")) {
                start = line;
                length = 0;
            }
            length++;
            if (line.matches(" {4,8}\\}")) {
                due.is(start + " is short", length <= 60 ? 1 : 0, 1);
            }
        }
    }

    /** Calls go at most eight deep, and none comes back to itself. */
    private static void depths(Due due) {
        StringWriter text = new StringWriter();
        List<String> arguments = new ArrayList<>(List.of("-c", "-p", "-cp", System.getProperty("java.class.path")));
        arguments.add("WeldedRelays");
        for (Class<?> inside : WeldedRelays.class.getDeclaredClasses()) {
            arguments.add(inside.getName());
        }
        PrintWriter out = new PrintWriter(text);
        ToolProvider.findFirst("javap").orElseThrow().run(out, out, arguments.toArray(new String[0]));
        Map<String, Set<String>> calls = new TreeMap<>();
        String owner = "";
        String method = "";
        for (String line : text.toString().split("\\R")) {
            Matcher type = Pattern.compile("class ([\\w$]+) \\{").matcher(line);
            Matcher start = Pattern.compile("^  [\\w.$\\[\\] ]*?([\\w$]+)\\(.*\\);$").matcher(line);
            Matcher call = Pattern.compile("// Method (?:([\\w$]+)\\.)?\"?([\\w<>]+)\"?:").matcher(line);
            if (type.find()) {
                owner = type.group(1);
            } else if (start.find()) {
                method = owner + "." + (start.group(1).equals(owner) ? "<init>" : start.group(1));
                calls.put(method, new TreeSet<>());
            } else if (call.find()) {
                calls.get(method).add((call.group(1) == null ? owner : call.group(1)) + "." + call.group(2));
            }
        }
        due.is("calls were found", calls.getOrDefault("WeldedRelays.read", Set.of()).size() > 3 ? 1 : 0, 1);
        for (String from : calls.keySet()) {
            int depth = depth(calls, from, 0);
            due.is(from + " goes " + depth + " deep", depth <= 8 ? 1 : 0, 1);
        }
    }

    private static int depth(Map<String, Set<String>> calls, String method, int above) {
        int deepest = 0;
        for (String called : calls.getOrDefault(method, Set.of())) {
            boolean isOurs = calls.containsKey(called) && above < 20;
            deepest = Math.max(deepest, isOurs ? depth(calls, called, above + 1) : 0);
        }
        return deepest + 1;
    }

    /** The first round is for the machine's own objects; those of the second would be the program's. */
    private static void noObjects(Due due) {
        ThreadMXBean threads = (ThreadMXBean) ManagementFactory.getThreadMXBean();
        WeldedRelays x = new WeldedRelays();
        long made = 0;
        for (int round = 0; round < 2; round++) {
            long before = threads.getCurrentThreadAllocatedBytes();
            everyCall(x);
            made = threads.getCurrentThreadAllocatedBytes() - before;
        }
        due.is(made + " bytes of objects made by calls", made < 1000 ? 1 : 0, 1);
    }

    private static void everyCall(WeldedRelays x) {
        for (int i = 0; i < 15; i++) {
            x.put(0x413D613B423D2141L);
            x.fault();
            x.read();
            x.put('A');
            x.wipe();
            x.time(0, false, 3);
            x.life(9);
            x.press(0, i % 2 == 0);
            x.settle();
            x.weld(0, true);
            x.pass(3);
            x.relay(0, 10);
            x.branch(0, 0, 0);
            x.count(9);
            x.ifPressed(1, 9);
            x.rest(0, 1);
            x.race(1);
            x.ifWelded(0, 1);
            x.unsafe(1);
            x.reach(9);
            x.save(0);
            x.restore(0);
            x.undo();
        }
    }
}
