import java.io.IOException;
import java.lang.reflect.InvocationTargetException;
import java.lang.reflect.Method;
import java.lang.reflect.Modifier;
import java.nio.file.Files;
import java.nio.file.Path;
import java.util.HashMap;
import java.util.List;
import java.util.Map;
import java.util.regex.Matcher;
import java.util.regex.Pattern;

/** README.md's example answers as it says there, and README.md tells of each call. */
public final class ReadmeTest {
    private static final Check CHECK = new Check("ReadmeTest");
    /** The name that keeps the answer, if there is one; the call; its arguments; the answer. */
    private static final Pattern CALL =
            Pattern.compile("(?:int (\\w+) = )?field\\.(\\w+)\\((.*)\\);\\s+// (-?[0-9.]+): .*");
    private static final String START = "DowserPegs field = new DowserPegs();";

    public static void main(String[] args) throws IOException, ReflectiveOperationException {
        Path root = args.length > 0 ? Path.of(args[0]) : Path.of("");
        List<String> lines = Files.readAllLines(root.resolve("README.md"));
        checkExample(lines);
        checkCallsAreTold(String.join("\n", lines));
        CHECK.end();
    }

    private static void checkExample(List<String> lines) throws ReflectiveOperationException {
        int at = lines.indexOf(START);
        CHECK.isTrue("README.md has an example", at >= 0);
        DowserPegs field = new DowserPegs();
        Map<String, Object> names = new HashMap<>();
        int calls = 0;
        for (at++; at < lines.size() && !lines.get(at).startsWith("```"); at++) {
            Matcher call = CALL.matcher(lines.get(at));
            boolean read = call.matches();
            CHECK.isTrue("a call and its answer: " + lines.get(at), read);
            if (read) {
                Object answer = answer(field, call.group(2), call.group(3), names);
                CHECK.isTrue(lines.get(at) + " (it answers " + answer + ")",
                        String.valueOf(answer).equals(call.group(4)));
                names.put(call.group(1), answer);
                calls++;
            }
        }
        CHECK.isTrue("the example makes calls", calls > 0);
    }

    private static Object answer(DowserPegs field, String name, String arguments, Map<String, Object> names)
            throws ReflectiveOperationException {
        String[] texts = arguments.isEmpty() ? new String[0] : arguments.split(", ");
        Object[] values = new Object[texts.length];
        for (int i = 0; i < texts.length; i++) {
            values[i] = value(texts[i], names);
        }
        try {
            return face(name).invoke(field, values);
        } catch (InvocationTargetException thrown) {
            return thrown.getCause();
        }
    }

    private static Object value(String text, Map<String, Object> names) {
        if (names.containsKey(text)) {
            return names.get(text);
        }
        if (text.equals("true") || text.equals("false")) {
            return text.equals("true");
        }
        return Integer.valueOf(text);
    }

    private static Method face(String name) throws NoSuchMethodException {
        for (Method method : DowserPegs.class.getDeclaredMethods()) {
            if (Modifier.isPublic(method.getModifiers()) && method.getName().equals(name)) {
                return method;
            }
        }
        throw new NoSuchMethodException(name);
    }

    /** Each public method has a row of a table, with as many arguments as it takes. */
    private static void checkCallsAreTold(String readme) {
        for (Method method : DowserPegs.class.getDeclaredMethods()) {
            if (Modifier.isPublic(method.getModifiers())) {
                int arguments = method.getParameterCount();
                String list = arguments == 0 ? "" : "\\w+" + ", \\w+".repeat(arguments - 1);
                Pattern row = Pattern.compile("\n\\| `" + method.getName() + "\\(" + list + "\\)` \\|");
                CHECK.isTrue("README.md tells of " + method, row.matcher(readme).find());
            }
        }
    }
}
