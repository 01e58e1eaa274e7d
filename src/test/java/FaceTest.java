import java.io.IOException;
import java.lang.reflect.Constructor;
import java.lang.reflect.Field;
import java.lang.reflect.Method;
import java.lang.reflect.Modifier;
import java.nio.file.Files;
import java.nio.file.Path;
import java.util.Set;
import java.util.TreeSet;
import java.util.regex.Matcher;
import java.util.regex.Pattern;

/** The public face is the document's and no more; the source keeps out what LANGUAGE.md rules out. */
public final class FaceTest {
    private static final String[] FACE = {
        "int point(int,int,int)", "int line(int,int,int)", "int conic(int,int,int,int,int,int)",
        "int number(int,int)", "int join(int,int)", "int on(int,int)", "int shape(int)",
        "long cross(int,int,int,int,int)", "int give(int)", "int make(int,int,int)", "int count(int)",
        "int entry(int,int)", "int then(int,int)", "int back(int)", "int image(int,int)",
        "int kind(int)", "long own(int,int)", "int fixed(int,int)", "int order(int,int)",
        "int seed(int)", "int group(int)", "int element(int,int)", "int among(int)",
    };
    private static final String[] RULED_OUT = {
        "throw", "try", "catch", "synchronized", "assert", "import", "package", "protected",
        "\\w+Exact", "->", "::", "hashCode", "toString", "native", "volatile",
    };

    /** What the source uses of what LANGUAGE.md lists. */
    private static final Set<String> LIBRARY = Set.of("Math.abs", "Math.max", "Math.min", "System.arraycopy",
            "Long.MIN_VALUE");

    public static void main(String[] args) throws IOException {
        Checks checks = new Checks("FaceTest");
        methods(checks);
        fields(checks);
        constructors(checks);
        insideClasses(checks);
        String code = code();
        words(checks, code);
        library(checks, code);
        newOnes(checks, code);
        parts(checks, code);
        checks.end();
    }

    private static void methods(Checks checks) {
        Set<String> want = new TreeSet<>(Set.of(FACE));
        Set<String> names = new TreeSet<>();
        for (Method method : TransformRows.class.getDeclaredMethods()) {
            if (Modifier.isPrivate(method.getModifiers())) {
                continue;
            }
            StringBuilder text = new StringBuilder();
            for (Class<?> type : method.getParameterTypes()) {
                text.append(text.length() == 0 ? "" : ",").append(type.getName());
            }
            String face = method.getReturnType() + " " + method.getName() + "(" + text + ")";
            checks.holds("the face has " + face, want.remove(face));
            checks.holds(face + " is public and no more",
                    method.getModifiers() == Modifier.PUBLIC);
            names.add(method.getName());
        }
        checks.holds("missing: " + want, want.isEmpty());
        for (Method method : TransformRows.class.getDeclaredMethods()) {
            if (Modifier.isPrivate(method.getModifiers())) {
                checks.holds("a private method's own name: " + method.getName(),
                        !names.contains(method.getName()));
            }
            checks.holds("at most seven parameters: " + method, method.getParameterCount() <= 7);
        }
    }

    private static void fields(Checks checks) {
        Set<String> seen = new TreeSet<>();
        for (Field field : TransformRows.class.getDeclaredFields()) {
            if (!Modifier.isPrivate(field.getModifiers())) {
                seen.add(field.getName());
            }
            if (Modifier.isStatic(field.getModifiers())) {
                checks.holds("final: " + field, Modifier.isFinal(field.getModifiers()));
            }
        }
        checks.holds("the constants: " + seen,
                seen.equals(Set.of("UNKNOWN", "OUTSIDE", "WRONG", "ROOM")));
        checks.due("UNKNOWN", TransformRows.UNKNOWN, -1);
        checks.due("OUTSIDE", TransformRows.OUTSIDE, -2);
        checks.due("WRONG", TransformRows.WRONG, -3);
        checks.due("ROOM", TransformRows.ROOM, -4);
    }

    private static void constructors(Checks checks) {
        Constructor<?>[] made = TransformRows.class.getDeclaredConstructors();
        checks.due("constructors", made.length, 1);
        checks.holds("one without parameters, public",
                made[0].getParameterCount() == 0 && made[0].getModifiers() == Modifier.PUBLIC);
        int modifiers = TransformRows.class.getModifiers();
        checks.holds("public final class", modifiers == (Modifier.PUBLIC | Modifier.FINAL));
    }

    private static void insideClasses(Checks checks) {
        Class<?>[] inside = TransformRows.class.getDeclaredClasses();
        checks.holds("some twelve classes", inside.length <= 12);
        for (Class<?> one : inside) {
            checks.holds(one + " is static", Modifier.isStatic(one.getModifiers()));
            checks.holds(one + " is not public", !Modifier.isPublic(one.getModifiers()));
            for (Field field : one.getDeclaredFields()) {
                checks.holds("no static state: " + field, !Modifier.isStatic(field.getModifiers())
                        || Modifier.isFinal(field.getModifiers()));
            }
        }
    }

    /** The source without its comments, line for line. */
    private static String code() throws IOException {
        String text = Files.readString(Path.of("src/main/java/TransformRows.java"));
        Matcher comments = Pattern.compile("(?s)/\\*.*?\\*/|//[^\n]*").matcher(text);
        return comments.replaceAll(found -> found.group().replaceAll("[^\n]", ""));
    }

    private static void words(Checks checks, String code) {
        for (String word : RULED_OUT) {
            String whole = word.matches("\\W+") ? Pattern.quote(word) : "\\b" + word + "\\b";
            checks.holds("no " + word + " in the source", !Pattern.compile(whole).matcher(code).find());
        }
    }

    /** What a name with a capital and a point behind it calls: the library, or a class inside. */
    private static void library(Checks checks, String code) {
        Set<String> inside = new TreeSet<>();
        for (Class<?> one : TransformRows.class.getDeclaredClasses()) {
            inside.add(one.getSimpleName());
        }
        Matcher calls = Pattern.compile("\\b([A-Z][a-z]\\w*)\\.(\\w+)").matcher(code);
        int seen = 0;
        while (calls.find()) {
            seen++;
            checks.holds("the library has no " + calls.group(),
                    inside.contains(calls.group(1)) || LIBRARY.contains(calls.group()));
        }
        checks.holds("calls were seen", seen > 50);
    }

    /** No call makes an object or an array: all are made with the TransformRows, for its fields. */
    private static void newOnes(Checks checks, String code) {
        int seen = 0;
        for (String line : code.split("\n")) {
            if (Pattern.compile("\\b(new|clone|copyOf|copyOfRange)\\b").matcher(line).find()) {
                seen++;
                checks.holds("made for a field alone: " + line.trim(),
                        line.matches("\\s+private final [\\w\\[\\]]+ \\w+ = new [^;]+;"));
            }
        }
        checks.holds("rows are made", seen > 20);
    }

    /** Methods of some sixty lines, classes of some twenty fields beside their constants. */
    private static void parts(Checks checks, String code) {
        Matcher methods = Pattern.compile("(?ms)^( +)[^ \n][^\n]*\\) \\{$.*?^\\1\\}$").matcher(code);
        int seen = 0;
        while (methods.find()) {
            seen++;
            long lines = methods.group().lines().count();
            checks.holds("a short method, of " + lines + " lines: " + methods.group().lines().findFirst().get().trim(),
                    lines <= 60);
        }
        checks.holds("methods were seen", seen > 80);
        countFields(checks, TransformRows.class);
        for (Class<?> one : TransformRows.class.getDeclaredClasses()) {
            countFields(checks, one);
        }
    }

    private static void countFields(Checks checks, Class<?> one) {
        int fields = 0;
        for (Field field : one.getDeclaredFields()) {
            fields += Modifier.isStatic(field.getModifiers()) ? 0 : 1;
        }
        checks.holds(fields + " fields of " + one, fields <= 20);
    }
}
