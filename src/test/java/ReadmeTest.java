import java.io.IOException;
import java.lang.reflect.Method;
import java.lang.reflect.Modifier;
import java.nio.file.Files;
import java.nio.file.Path;
import java.util.Arrays;
import java.util.HashMap;
import java.util.List;
import java.util.Map;
import java.util.Set;
import java.util.TreeSet;
import java.util.regex.Matcher;
import java.util.regex.Pattern;
import java.util.stream.Stream;

/**
 * Makes each call that README.md shows, and compares its answer with the one told there, and the pad with a text told
 * in quotes. It fails, too, if there is a line of code that it cannot read, a method of the class that is not shown, or
 * a file of the tests that is not named.
 */
public final class ReadmeTest {
    private static final Pattern BLOCK = Pattern.compile("(?ms)^```java\n(.*?)^```$");
    private static final Pattern MADE = Pattern.compile("ApplauseTallies (\\w+) = new ApplauseTallies\\(\\);");
    private static final Pattern CALL = Pattern.compile("(\\w+)\\.(\\w+)\\((.*?)\\); +// (-?\\d+|[A-Z_]+)(:.*)?");
    private static final Pattern PAD = Pattern.compile("\"(.*)\"");
    private static final Path TESTS = Path.of("src/test/java");

    private static final Map<String, ApplauseTallies> HOUSES = new HashMap<>();
    private static final Map<String, Method> METHODS = new HashMap<>();
    private static final Set<String> NOT_SHOWN = new TreeSet<>();
    private static int right = 0;
    private static int wrong = 0;

    private ReadmeTest() {
    }

    private static void wrong(String what) {
        wrong++;
        System.out.println("README.md: " + what);
    }

    private static void readFace() {
        for (Method method : ApplauseTallies.class.getDeclaredMethods()) {
            if (Modifier.isPublic(method.getModifiers())) {
                METHODS.put(method.getName(), method);
                NOT_SHOWN.add(method.getName());
            }
        }
    }

    /** The value of a number, or of a constant by its name. */
    private static long valueOf(String word) throws ReflectiveOperationException {
        String name = word.replaceFirst("^ApplauseTallies\\.", "");
        if (name.matches("[A-Z_]+")) {
            return ApplauseTallies.class.getField(name).getInt(null);
        }
        return Long.decode(name.replaceFirst("L$", ""));
    }

    private static Object[] given(Method method, String words) throws ReflectiveOperationException {
        List<String> all = words.isEmpty() ? List.of() : Arrays.asList(words.split(", "));
        Object[] values = new Object[all.size()];
        for (int i = 0; i < values.length; i++) {
            long value = valueOf(all.get(i));
            values[i] = method.getParameterTypes()[i] == long.class ? (Object) value : (Object) Math.toIntExact(value);
        }
        return values;
    }

    private static void call(String line, Matcher told) throws ReflectiveOperationException {
        ApplauseTallies house = HOUSES.get(told.group(1));
        Method method = METHODS.get(told.group(2));
        if (house == null || method == null) {
            wrong("there is no such object or method: " + line);
            return;
        }
        NOT_SHOWN.remove(method.getName());
        Object got = method.invoke(house, given(method, told.group(3)));
        if ((int) got != valueOf(told.group(4))) {
            wrong("answered " + got + ": " + line);
            return;
        }
        right++;
        Matcher pad = PAD.matcher(line);
        if (pad.find() && !Checks.padOf(house).equals(pad.group(1))) {
            wrong("the pad is " + Checks.padOf(house) + ": " + line);
        }
    }

    private static void read(String line) throws ReflectiveOperationException {
        Matcher made = MADE.matcher(line);
        Matcher called = CALL.matcher(line);
        if (made.matches()) {
            HOUSES.put(made.group(1), new ApplauseTallies());
        } else if (called.matches()) {
            call(line, called);
        } else {
            wrong("neither an object nor a call with its answer: " + line);
        }
    }

    private static void nameTheTests(String text) throws IOException {
        try (Stream<Path> files = Files.list(TESTS)) {
            for (Path file : files.sorted().toList()) {
                String name = file.getFileName().toString().replaceFirst("\\.java$", "");
                if (!text.contains("`" + name + "`")) {
                    wrong("does not name the file " + file);
                }
            }
        }
    }

    public static void main(String[] args) throws Exception {
        String text = Files.readString(Path.of("README.md"));
        readFace();
        Matcher block = BLOCK.matcher(text);
        while (block.find()) {
            for (String line : block.group(1).split("\n")) {
                read(line);
            }
        }
        if (!NOT_SHOWN.isEmpty()) {
            wrong("does not show " + NOT_SHOWN);
        }
        nameTheTests(text);
        System.out.println(right + " calls of README.md answered as told, " + wrong + " things wrong");
        if (wrong != 0) {
            System.exit(1);
        }
    }
}
