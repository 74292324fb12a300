import java.io.IOException;
import java.lang.reflect.Field;
import java.lang.reflect.Method;
import java.lang.reflect.Modifier;
import java.nio.file.Files;
import java.nio.file.Path;
import java.util.List;
import java.util.regex.Matcher;
import java.util.regex.Pattern;
import java.util.stream.Stream;

/** What README.md says of the class holds: its example's answers, and that it names every call, constant and test. */
public final class ReadmeTest {
    private static final Pattern CALL = Pattern.compile("x\\.(\\w+)\\((.*)\\); +// (-?\\w+)[:,]?.*");
    private static final Checks CHECKS = new Checks();

    public static void main(String[] args) throws IOException, ReflectiveOperationException {
        String text = Files.readString(Path.of("README.md"));
        example(text.lines().filter(line -> line.startsWith("x.")).toList());
        for (Method method : ExactEstimates.class.getDeclaredMethods()) {
            if (Modifier.isPublic(method.getModifiers())) {
                dueNamed(text, "`" + method.getName() + "(");
            }
        }
        for (Field constant : ExactEstimates.class.getFields()) {
            dueNamed(text, "`" + constant.getName() + "` " + constant.getInt(null));
        }
        try (Stream<Path> tests = Files.list(Path.of("src/test/java"))) {
            tests.map(path -> path.getFileName().toString().replace(".java", ""))
                    .filter(name -> name.endsWith("Test")).forEach(name -> dueNamed(text, "`" + name + "`"));
        }
        CHECKS.end();
    }

    private static void dueNamed(String text, String name) {
        CHECKS.due("README.md names " + name, text.contains(name) ? 1 : 0, 1);
    }

    private static void example(List<String> lines) throws ReflectiveOperationException {
        ExactEstimates x = new ExactEstimates();
        CHECKS.due("the example has calls", lines.isEmpty() ? 0 : 1, 1);
        for (String line : lines) {
            Matcher call = CALL.matcher(line);
            if (!call.matches()) {
                CHECKS.due(line, "not a call and its answer", "a call and its answer");
                continue;
            }
            CHECKS.due(line, answer(x, call.group(1), call.group(2)), call.group(3));
        }
    }

    /** What a call answers whose arguments are written out; the face has no two calls of one name. */
    private static String answer(ExactEstimates x, String name, String written) throws ReflectiveOperationException {
        String[] parts = written.isEmpty() ? new String[0] : written.split(", ");
        for (Method method : ExactEstimates.class.getMethods()) {
            if (method.getName().equals(name) && method.getParameterCount() == parts.length) {
                Object[] arguments = new Object[parts.length];
                for (int i = 0; i < parts.length; i++) {
                    boolean truth = method.getParameterTypes()[i] == boolean.class;
                    arguments[i] = truth ? (Object) Boolean.valueOf(parts[i]) : Integer.valueOf(parts[i]);
                }
                return String.valueOf(method.invoke(x, arguments));
            }
        }
        return "no such call";
    }
}
