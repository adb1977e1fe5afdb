import java.io.IOException;
import java.lang.reflect.Field;
import java.lang.reflect.InvocationTargetException;
import java.lang.reflect.Method;
import java.lang.reflect.Modifier;
import java.nio.file.Files;
import java.nio.file.Path;
import java.util.List;
import java.util.regex.Matcher;
import java.util.regex.Pattern;
import java.util.stream.Collectors;
import java.util.stream.Stream;

/** What README.md says holds: its example answers as it tells, and it names every call, constant and test. */
public final class ReadmeTest {
    private static final Pattern CALL = Pattern.compile("x\\.(\\w+)\\((.*?)\\);\\s*// (-?\\d+).*");
    private static int wrong = 0;

    public static void main(String[] args) throws IOException, IllegalAccessException, InvocationTargetException {
        String page = Files.readString(Path.of("README.md"));
        example(page);
        names(page);
        tests(page);
        System.out.println(wrong == 0 ? "the page holds" : wrong + " lines of the page do not hold");
        if (wrong != 0) System.exit(1);
    }

    private static void check(boolean good, String what) {
        if (!good) {
            wrong++;
            System.out.println("README.md: " + what);
        }
    }

    private static void example(String page) throws IllegalAccessException, InvocationTargetException {
        HalfAndHalfAgain x = new HalfAndHalfAgain();
        String[] lines = page.replaceAll("(?s).*```java\n(.*?)```.*", "$1").split("\n");
        check(lines.length > 20, "the example is short");
        check(lines[0].equals("HalfAndHalfAgain x = new HalfAndHalfAgain();"), "the example begins with " + lines[0]);
        for (int i = 1; i < lines.length; i++) {
            Matcher line = CALL.matcher(lines[i]);
            check(line.matches(), "no call with its answer: " + lines[i]);
            if (!line.matches()) continue;
            long answer = call(x, line.group(1), line.group(2));
            check(answer == Long.parseLong(line.group(3)), lines[i] + " (answered " + answer + ")");
        }
    }

    private static long call(HalfAndHalfAgain x, String name, String given)
            throws IllegalAccessException, InvocationTargetException {
        for (Method method : HalfAndHalfAgain.class.getDeclaredMethods()) {
            if (!method.getName().equals(name) || !Modifier.isPublic(method.getModifiers())) continue;
            String[] texts = given.isEmpty() ? new String[0] : given.split(", ");
            Object[] values = new Object[texts.length];
            for (int i = 0; i < texts.length; i++) values[i] = value(texts[i], method.getParameterTypes()[i]);
            return ((Number) method.invoke(x, values)).longValue();
        }
        check(false, "there is no call " + name);
        return 0;
    }

    private static Object value(String text, Class<?> type) {
        if (type == boolean.class) return Boolean.valueOf(text);
        if (type == long.class) return Long.decode(text.replace("L", ""));
        return Integer.decode(text);
    }

    private static void names(String page) throws IllegalAccessException {
        for (Method method : HalfAndHalfAgain.class.getDeclaredMethods()) {
            if (!Modifier.isPublic(method.getModifiers())) continue;
            check(page.contains("`" + method.getName() + "`"), "says nothing of " + method.getName());
        }
        for (Field field : HalfAndHalfAgain.class.getDeclaredFields()) {
            if (!Modifier.isPublic(field.getModifiers())) continue;
            check(page.contains("`" + field.getName() + "` (" + field.getInt(null)), "says nothing of " + field.getName());
        }
    }

    private static void tests(String page) throws IOException {
        List<String> names;
        try (Stream<Path> files = Files.list(Path.of("src/test/java"))) {
            names = files.map(file -> file.getFileName().toString().replace(".java", "")).collect(Collectors.toList());
        }
        for (String name : names) check(page.contains("- `" + name + "`:"), "says nothing of " + name);
        check(page.contains(".ci/run"), "says nothing of .ci/run");
    }
}
