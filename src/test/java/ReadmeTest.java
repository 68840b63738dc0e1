import java.io.IOException;
import java.lang.reflect.InvocationTargetException;
import java.lang.reflect.Method;
import java.lang.reflect.Modifier;
import java.nio.file.Files;
import java.nio.file.Path;
import java.util.Set;
import java.util.TreeSet;
import java.util.regex.Matcher;
import java.util.regex.Pattern;

/** README.md: its example answers what stands behind each call, and no call of the face is left out. */
public final class ReadmeTest {
    private static final Pattern EXAMPLE = Pattern.compile("```java\n(.*?)```", Pattern.DOTALL);
    private static final Pattern CALL = Pattern.compile("x\\.(\\w+)\\(([^)]*)\\); +// (throws \\w+|[^: ]+).*");
    private static final String FIRST_LINE = "LinePool x = new LinePool();";

    private final Check check = new Check("ReadmeTest");
    private final LinePool x = new LinePool();
    private final Set<String> called = new TreeSet<>();

    private ReadmeTest() {
    }

    public static void main(String[] args) throws IOException, ReflectiveOperationException {
        new ReadmeTest().read(Files.readString(Path.of("README.md")));
    }

    private void read(String readme) throws ReflectiveOperationException {
        Matcher example = EXAMPLE.matcher(readme);
        check.due("whether there is an example", example.find(), true);
        for (String line : example.group(1).split("\n")) {
            if (!line.isEmpty() && !line.equals(FIRST_LINE)) {
                follow(line);
            }
        }
        for (Method m : LinePool.class.getDeclaredMethods()) {
            if (Modifier.isPublic(m.getModifiers())) {
                check.due("whether the example calls " + m.getName(), called.contains(m.getName()), true);
                check.due("whether the table has " + m.getName(), readme.contains("| `" + m.getName() + "("), true);
            }
        }
        check.due("whether it tells how to run the tests", readme.contains("```sh\n.ci/run\n```"), true);
        check.end();
    }

    private void follow(String line) throws ReflectiveOperationException {
        Matcher call = CALL.matcher(line);
        boolean understood = call.matches();
        check.due("whether this can be followed: " + line, understood, true);
        if (understood) {
            called.add(call.group(1));
            String answer = answer(call.group(1), call.group(2));
            // what clear is said to answer is the rest of its comment
            boolean asTold = answer.equals("null") || answer.equals(call.group(3));
            check.due(line + " answered " + answer + ", and whether that is as told", asTold, true);
        }
    }

    private String answer(String name, String numbers) throws ReflectiveOperationException {
        String[] parts = numbers.isEmpty() ? new String[0] : numbers.split(", ");
        Class<?>[] types = new Class<?>[parts.length];
        Object[] given = new Object[parts.length];
        for (int i = 0; i < parts.length; i++) {
            types[i] = int.class;
            given[i] = Integer.valueOf(parts[i]);
        }
        try {
            return String.valueOf(LinePool.class.getMethod(name, types).invoke(x, given));
        } catch (InvocationTargetException e) {
            return "throws " + e.getCause().getClass().getSimpleName();
        }
    }
}
