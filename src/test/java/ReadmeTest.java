import java.io.IOException;
import java.lang.reflect.InvocationTargetException;
import java.lang.reflect.Method;
import java.lang.reflect.Modifier;
import java.nio.file.Files;
import java.nio.file.Path;
import java.util.List;
import java.util.Map;
import java.util.Set;
import java.util.TreeMap;
import java.util.TreeSet;
import java.util.regex.Matcher;
import java.util.regex.Pattern;
import java.util.stream.Stream;

/** What README.md shows of the class holds: each shown call answers what is told beside it. */
public final class ReadmeTest {
    private static final String NEW = "CubeWorlds x = new CubeWorlds();";
    private static final Pattern CALL = Pattern.compile("x\\.(\\w+)\\(([^()]*)\\); *// (-?\\d+|[A-Z]+)(: .+)?");
    private static final Pattern CONSTANT = Pattern.compile("\\| *`([A-Z]+)` *\\| *(-?\\d+) *\\|.*");
    private static final Pattern TEST = Pattern.compile("`(\\w+Test)`");
    private static final int MOST_CALLS = 512;

    private static final Map<String, Method> FACE = new TreeMap<>();
    private static final Set<String> shown = new TreeSet<>();
    private static final Map<String, Integer> constants = new TreeMap<>();
    private static CubeWorlds x = null;
    private static int calls = 0;
    private static int wrong = 0;

    public static void main(String[] args) throws IOException, ReflectiveOperationException {
        for (Method m : CubeWorlds.class.getDeclaredMethods()) {
            if (Modifier.isPublic(m.getModifiers())) {
                FACE.put(m.getName(), m);
            }
        }
        List<String> lines = Files.readAllLines(Path.of(args.length > 0 ? args[0] : "README.md"));
        constants(lines);
        calls(lines);
        tests(lines);
        System.out.println("ReadmeTest: " + (wrong == 0 ? "all is as due" : wrong + " wrong"));
        if (wrong != 0) {
            System.exit(1);
        }
    }

    private static void check(boolean holds, String what) {
        if (!holds) {
            wrong++;
            System.out.println("README.md: " + what);
        }
    }

    private static void constants(List<String> lines) throws ReflectiveOperationException {
        for (String line : lines) {
            Matcher m = CONSTANT.matcher(line);
            if (m.matches()) {
                constants.put(m.group(1), Integer.parseInt(m.group(2)));
                check(CubeWorlds.class.getField(m.group(1)).getInt(null) == constants.get(m.group(1)), line);
            }
        }
        check(constants.size() == 5, "the table tells of " + constants.keySet());
    }

    /** All lines between ```java and ``` are run: one that is neither a new object nor a call with an answer fails. */
    private static void calls(List<String> lines) throws ReflectiveOperationException {
        boolean inside = false;
        for (String line : lines) {
            if (line.startsWith("```")) {
                inside = !inside;
                x = null;
                check(!inside || line.equals("```java"), "a block that is not run: " + line);
            } else if (inside) {
                run(line);
            }
        }
        check(!inside, "a block has no end");
        check(shown.equals(FACE.keySet()), "calls shown are " + shown);
    }

    private static void run(String line) throws ReflectiveOperationException {
        if (line.equals(NEW)) {
            x = new CubeWorlds();
            calls = 0;
            return;
        }
        Matcher m = CALL.matcher(line);
        if (!m.matches() || !FACE.containsKey(m.group(1)) || x == null) {
            check(false, "no call with an answer: " + line);
            return;
        }
        calls++;
        check(calls <= MOST_CALLS, "too many calls of one object: " + line);
        shown.add(m.group(1));
        Integer want = m.group(3).matches("[A-Z]+") ? constants.get(m.group(3)) : Integer.valueOf(m.group(3));
        int got = answer(FACE.get(m.group(1)), m.group(2).split(", "), line);
        check(want != null && got == want, line + " -- answered " + got);
    }

    private static int answer(Method call, String[] told, String line) throws ReflectiveOperationException {
        Object[] given = given(call.getParameterTypes(), told);
        check(given != null, "arguments that the call does not take: " + line);
        try {
            return given == null ? 0 : (int) call.invoke(x, given);
        } catch (InvocationTargetException thrown) {
            check(false, line + " -- threw " + thrown.getCause());
            return 0;
        }
    }

    /** The arguments as the call takes them, or null if they are not of its types. */
    private static Object[] given(Class<?>[] types, String[] told) {
        Object[] given = new Object[types.length];
        boolean taken = types.length == told.length;
        for (int i = 0; i < types.length && taken; i++) {
            taken = told[i].matches(types[i] == boolean.class ? "true|false" : "-?\\d+");
            if (taken) {
                given[i] = types[i] == boolean.class ? (Object) told[i].equals("true") : (Object) Integer.valueOf(told[i]);
            }
        }
        return taken ? given : null;
    }

    /** Each test of the project is named, and each that is named is there. */
    private static void tests(List<String> lines) throws IOException {
        Set<String> named = new TreeSet<>();
        Matcher m = TEST.matcher(String.join("\n", lines));
        while (m.find()) {
            named.add(m.group(1));
        }
        Set<String> there = new TreeSet<>();
        try (Stream<Path> files = Files.list(Path.of("src/test/java"))) {
            files.map(f -> f.getFileName().toString()).filter(f -> f.endsWith("Test.java"))
                .forEach(f -> there.add(f.substring(0, f.length() - 5)));
        }
        check(named.equals(there), "tests named are " + named + ", there are " + there);
        check(Files.isExecutable(Path.of(".ci/run")) && lines.contains("    .ci/run"), "how to run the tests");
    }
}
