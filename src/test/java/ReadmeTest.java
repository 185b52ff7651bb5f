import java.io.IOException;
import java.lang.reflect.Method;
import java.lang.reflect.Modifier;
import java.nio.file.Files;
import java.nio.file.Path;
import java.util.Arrays;
import java.util.regex.Matcher;
import java.util.regex.Pattern;

/** README.md says what is so: its example answers what stands there, and its table has every call. */
public final class ReadmeTest {
    private static final Pattern EXAMPLE = Pattern.compile("(?s)```java\n(.*?)```");
    private static final Pattern MADE = Pattern.compile("ArrowClasses x = new ArrowClasses\\((\\d+)\\);");
    private static final Pattern CALL = Pattern.compile("x\\.(\\w+)\\(([^)]*)\\); *// (-?\\w+)(:.*)?");
    private static int wrong = 0;

    private static void check(boolean holds, String text) {
        if (!holds) {
            wrong++;
            System.out.println(text);
        }
    }

    private static Object answer(ArrowClasses x, String name, String arguments) throws ReflectiveOperationException {
        Object[] given = Arrays.stream(arguments.split(", *")).filter(word -> !word.isEmpty())
                .map(Integer::valueOf).toArray();
        Class<?>[] types = new Class<?>[given.length];
        Arrays.fill(types, int.class);
        return ArrowClasses.class.getMethod(name, types).invoke(x, given);
    }

    private static void exampleHolds(String readme) throws ReflectiveOperationException {
        Matcher example = EXAMPLE.matcher(readme);
        check(example.find(), "README.md has no example");
        String[] lines = example.group(1).split("\n");
        Matcher made = MADE.matcher(lines[0]);
        check(made.matches(), "the example makes no object in its first line");
        ArrowClasses x = new ArrowClasses(Integer.parseInt(made.group(1)));
        for (int i = 1; i < lines.length; i++) {
            Matcher call = CALL.matcher(lines[i]);
            if (!call.matches()) {
                check(false, "a line of the example tells no answer: " + lines[i]);
                continue;
            }
            String got = String.valueOf(answer(x, call.group(1), call.group(2)));
            check(got.equals(call.group(3)), lines[i] + " answered " + got);
        }
    }

    private static void tableIsWhole(String readme) {
        for (Method method : ArrowClasses.class.getDeclaredMethods()) {
            if (Modifier.isPublic(method.getModifiers())) {
                check(readme.contains("\n| `" + method.getName() + "("), "the table lacks " + method.getName());
            }
        }
    }

    private static void testsAreNamed(String readme) throws IOException {
        try (var files = Files.list(Path.of("src/test/java"))) {
            for (Path file : files.toList()) {
                String name = file.getFileName().toString().replace(".java", "");
                check(readme.contains("\n- `" + name + "`: "), "README.md does not tell of " + name);
            }
        }
    }

    public static void main(String[] args) throws IOException, ReflectiveOperationException {
        String readme = Files.readString(Path.of("README.md"));
        exampleHolds(readme);
        tableIsWhole(readme);
        testsAreNamed(readme);
        System.out.println(wrong == 0 ? "README.md is as due" : wrong + " faults");
        if (wrong != 0) {
            System.exit(1);
        }
    }
}
