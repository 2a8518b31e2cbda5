import java.io.IOException;
import java.lang.reflect.Field;
import java.lang.reflect.Method;
import java.lang.reflect.Modifier;
import java.nio.file.Files;
import java.nio.file.Path;
import java.util.Arrays;
import java.util.List;
import java.util.regex.Matcher;
import java.util.regex.Pattern;

/** README.md names the whole face, and its example answers what it says there. */
public final class ReadmeTest {
    private static final Pattern CALL = Pattern.compile("desk\\.(\\w+)\\(([^)]*)\\); +// (\\w+).*");
    private static final Due due = new Due("ReadmeTest");

    public static void main(String[] args) throws IOException, ReflectiveOperationException {
        List<String> lines = Files.readAllLines(Path.of("README.md"));
        runExample(lines);
        namesTheFace(String.join("\n", lines));
        due.end();
    }

    private static void runExample(List<String> lines) throws ReflectiveOperationException {
        GridlockDesk desk = new GridlockDesk(3);
        int calls = 0;
        for (String line : lines) {
            if (line.startsWith("desk.")) {
                Matcher call = CALL.matcher(line);
                due.holds("an answer stands in: " + line, call.matches());
                due.holds(line, call.matches() && answer(desk, call.group(1), call.group(2)).equals(call.group(3)));
                calls++;
            }
        }
        due.is("calls in the example", calls, 12);
    }

    private static String answer(GridlockDesk desk, String name, String arguments) throws ReflectiveOperationException {
        Method method = method(name);
        Class<?>[] types = method.getParameterTypes();
        String[] texts = arguments.isEmpty() ? new String[0] : arguments.split(", ");
        Object[] values = new Object[texts.length];
        for (int i = 0; i < texts.length; i++) {
            values[i] = types[i] == long.class ? (Object) Long.valueOf(texts[i]) : (Object) Integer.valueOf(texts[i]);
        }
        return String.valueOf(method.invoke(desk, values));
    }

    private static Method method(String name) {
        return Arrays.stream(GridlockDesk.class.getMethods()).filter(m -> m.getName().equals(name)).findFirst().get();
    }

    private static void namesTheFace(String readme) {
        for (Method method : GridlockDesk.class.getDeclaredMethods()) {
            if (Modifier.isPublic(method.getModifiers())) {
                due.holds("a row for " + method.getName(), readme.contains("\n| `" + method.getName() + "("));
            }
        }
        for (Field field : GridlockDesk.class.getFields()) {
            due.holds("the constant " + field.getName(), readme.contains("`" + field.getName() + "` (-"));
        }
    }
}
