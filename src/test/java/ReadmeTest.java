import java.io.IOException;
import java.lang.reflect.Method;
import java.lang.reflect.Modifier;
import java.nio.file.Files;
import java.nio.file.Path;
import java.util.Arrays;
import java.util.HashMap;
import java.util.List;
import java.util.Map;
import java.util.Set;
import java.util.TreeSet;
import java.util.regex.Matcher;
import java.util.regex.Pattern;
import java.util.stream.Stream;

/** README.md holds for the class and for the tests as they stand. */
public final class ReadmeTest {
    private static final Checks CHECKS = new Checks("ReadmeTest");
    private static final Pattern CALL = Pattern.compile(
            "(?:int (\\w+) = )?plane\\.(\\w+)\\(([^)]*)\\);\\s*// (-?\\d+)(:.*)?");
    private static final String MADE = "TransformRows plane = new TransformRows();";

    public static void main(String[] args) throws IOException, ReflectiveOperationException {
        String readme = Files.readString(Path.of("README.md"));
        example(readme);
        calls(readme);
        tests(readme);
        CHECKS.end();
    }

    private static Map<String, Method> face() {
        Map<String, Method> face = new HashMap<>();
        for (Method method : TransformRows.class.getDeclaredMethods()) {
            if (Modifier.isPublic(method.getModifiers())) {
                face.put(method.getName(), method);
            }
        }
        return face;
    }

    /** Each line of the example is a call with the answer that is told behind it. */
    private static void example(String readme) throws ReflectiveOperationException {
        String[] parts = readme.split("(?m)^```(?:java)?\n");
        CHECKS.due("one example", parts.length, 3);
        Map<String, Method> face = face();
        Map<String, Integer> names = new HashMap<>();
        TransformRows plane = null;
        int calls = 0;
        for (String line : parts[1].split("\n")) {
            Matcher call = CALL.matcher(line);
            if (line.equals(MADE)) {
                plane = new TransformRows();
            } else if (call.matches() && face.containsKey(call.group(2))) {
                long answer = answer(plane, face.get(call.group(2)), call.group(3), names);
                CHECKS.due(line.replaceAll("\\s*//.*", ""), answer, Long.parseLong(call.group(4)));
                if (call.group(1) != null) {
                    names.put(call.group(1), (int) answer);
                }
                calls++;
            } else {
                CHECKS.holds("a call, a comment or nothing: " + line, line.isEmpty() || line.startsWith("// "));
            }
        }
        CHECKS.holds("there are calls", calls >= 25);
    }

    private static long answer(TransformRows plane, Method method, String texts, Map<String, Integer> names)
            throws ReflectiveOperationException {
        Object[] given = Arrays.stream(texts.split(", "))
                .map(text -> names.containsKey(text) ? names.get(text) : Integer.valueOf(text)).toArray();
        return ((Number) method.invoke(plane, given)).longValue();
    }

    /** The table names each call once, and no other. */
    private static void calls(String readme) {
        Set<String> missing = new TreeSet<>(face().keySet());
        for (String line : readme.split("\n")) {
            Matcher name = Pattern.compile("`(\\w+)`").matcher(line);
            while (line.startsWith("| ") && name.find()) {
                CHECKS.holds("a call, once: " + name.group(1), missing.remove(name.group(1)));
            }
        }
        CHECKS.holds("no call is missing: " + missing, missing.isEmpty());
    }

    /** The list of tests names each file of src/test/java, and no other. */
    private static void tests(String readme) throws IOException {
        Set<String> files = new TreeSet<>();
        try (Stream<Path> found = Files.list(Path.of("src/test/java"))) {
            found.forEach(path -> files.add(path.getFileName().toString().replace(".java", "")));
        }
        String list = readme.substring(readme.indexOf("## Tests"));
        Set<String> named = new TreeSet<>();
        Matcher name = Pattern.compile("`([A-Z]\\w+)`").matcher(list);
        while (name.find()) {
            named.add(name.group(1));
        }
        CHECKS.holds(named + " are " + files, named.equals(files));
        for (String path : List.of(".ci/run", "src/main/java/TransformRows.java", "src/test/java/MapsTest.java")) {
            CHECKS.holds("README tells of " + path, readme.contains(path));
            CHECKS.holds("there is " + path, Files.isRegularFile(Path.of(path)));
        }
        CHECKS.holds(".ci/run can be run", Files.isExecutable(Path.of(".ci/run")));
    }
}
