import java.io.IOException;
import java.lang.reflect.Method;
import java.lang.reflect.Modifier;
import java.nio.file.DirectoryStream;
import java.nio.file.Files;
import java.nio.file.Path;
import java.util.HashMap;
import java.util.List;
import java.util.Map;
import java.util.TreeSet;
import java.util.regex.Matcher;
import java.util.regex.Pattern;

/**
 * What README.md shows of the class's use is what the class answers: its java blocks are gone through
 * line by line as one run, and each call must answer what stands behind it. Runs in the project's root.
 */
public final class ReadmeTests {
    private static final Path README = Path.of("README.md");
    private static final Path TESTS = Path.of("src/test/java");
    private static final String NEW_OBJECT = "CallNumbers x = new CallNumbers();";
    private static final Pattern CALL = Pattern.compile(
        "(?:int (\\w+) = )?x\\.(\\w+)\\(([^()]*)\\);\\s+// (-?\\d+|[A-Z]+)(?::.*)?");
    private static final List<String> CONSTANTS = List.of("UNKNOWN", "OUTSIDE", "STATE", "FULL", "NONE");

    private static final Map<String, Integer> names = new HashMap<>();
    private static final TreeSet<String> shown = new TreeSet<>();
    private static CallNumbers x;
    private static int calls = 0;
    private static int wrong = 0;

    private static void fault(String what) {
        wrong++;
        System.out.println("README.md: " + what);
    }

    private static void goThroughBlocks(List<String> lines) throws ReflectiveOperationException {
        boolean inside = false;
        for (String line : lines) {
            if (line.startsWith("```")) {
                inside = line.equals("```java");
            } else if (inside && !line.isBlank()) {
                goThrough(line);
            }
        }
        if (inside) {
            fault("a block has no end");
        }
    }

    private static void goThrough(String line) throws ReflectiveOperationException {
        if (line.equals(NEW_OBJECT)) {
            x = new CallNumbers();
            names.clear();
            return;
        }
        Matcher m = CALL.matcher(line);
        if (x == null || !m.matches()) {
            fault("no call with its answer behind it: " + line);
            return;
        }
        Integer got = answer(m.group(2), m.group(3).isBlank() ? new String[0] : m.group(3).split(","));
        Integer want = answerThatIsShown(m.group(4));
        if (got == null || want == null) {
            fault("not to be read: " + line);
            return;
        }
        calls++;
        if (!got.equals(want)) {
            fault(line + " <- the class answered " + got);
        }
        if (m.group(1) != null && names.put(m.group(1), got) != null) {
            fault("a name that there is already: " + line);
        }
    }

    private static Integer answerThatIsShown(String text) throws ReflectiveOperationException {
        if (CONSTANTS.contains(text)) {
            return CallNumbers.class.getField(text).getInt(null);
        }
        return text.matches("-?\\d+") ? Integer.valueOf(text) : null;
    }

    private static Integer answer(String method, String[] arguments) throws ReflectiveOperationException {
        Object[] values = new Object[arguments.length];
        for (int i = 0; i < arguments.length; i++) {
            String a = arguments[i].trim();
            values[i] = a.matches("-?\\d+") ? Integer.valueOf(a) : names.get(a);
            if (values[i] == null) {
                return null;
            }
        }
        for (Method m : CallNumbers.class.getDeclaredMethods()) {
            if (Modifier.isPublic(m.getModifiers()) && m.getName().equals(method)
                && m.getParameterCount() == values.length) {
                shown.add(method);
                return (Integer) m.invoke(x, values);
            }
        }
        return null;
    }

    private static void allIsShown(String text) throws IOException {
        for (Method m : CallNumbers.class.getDeclaredMethods()) {
            if (Modifier.isPublic(m.getModifiers()) && !shown.contains(m.getName())) {
                fault("no call of " + m.getName() + " is shown");
            }
        }
        for (String name : CONSTANTS) {
            if (!text.contains(name)) {
                fault(name + " is not told of");
            }
        }
        if (!text.contains(".ci/run")) {
            fault("it does not say how to run the tests");
        }
        try (DirectoryStream<Path> files = Files.newDirectoryStream(TESTS, "*.java")) {
            for (Path file : files) {
                String name = file.getFileName().toString().replace(".java", "");
                if (!text.contains("- `" + name + "`:")) {
                    fault("the test " + name + " is not told of");
                }
            }
        }
    }

    public static void main(String[] args) throws IOException, ReflectiveOperationException {
        goThroughBlocks(Files.readAllLines(README));
        allIsShown(Files.readString(README));
        System.out.println(calls + " calls that README.md shows, " + wrong + " faults");
        if (wrong != 0) {
            System.exit(1);
        }
    }
}
