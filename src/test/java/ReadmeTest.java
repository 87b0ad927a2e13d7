import java.io.IOException;
import java.lang.reflect.Method;
import java.lang.reflect.Modifier;
import java.nio.file.Files;
import java.nio.file.Paths;
import java.util.HashMap;
import java.util.Map;
import java.util.regex.Matcher;
import java.util.regex.Pattern;

/** README.md tells the truth: its example answers what stands behind each call, and it names every call. */
public final class ReadmeTest {
    private static final Pattern CALL = Pattern.compile("^x\\.(\\w+)\\(([^)]*)\\); +// (-?\\w+)", Pattern.MULTILINE);
    private static final int CALLS_OF_THE_EXAMPLE = 14;

    public static void main(String[] args) throws IOException, ReflectiveOperationException {
        String readme = new String(Files.readAllBytes(Paths.get("README.md")), "UTF-8");
        Map<String, Method> face = face();
        for (String name : face.keySet()) {
            Check.isTrue("README.md names " + name, readme.contains("`" + name + "`"));
        }
        runExample(readme, face);
        Check.end();
    }

    private static Map<String, Method> face() {
        Map<String, Method> face = new HashMap<>();
        for (Method method : GrottoHours.class.getDeclaredMethods()) {
            if (Modifier.isPublic(method.getModifiers())) {
                face.put(method.getName(), method);
            }
        }
        return face;
    }

    private static void runExample(String readme, Map<String, Method> face) throws ReflectiveOperationException {
        GrottoHours x = new GrottoHours();
        Matcher line = CALL.matcher(readme);
        int calls = 0;
        while (line.find()) {
            calls++;
            Method method = face.get(line.group(1));
            Object answer = method.invoke(x, arguments(method, line.group(2)));
            Check.isTrue(line.group() + ": " + answer, String.valueOf(answer).equals(line.group(3)));
        }
        Check.same("calls of the example", CALLS_OF_THE_EXAMPLE, calls);
    }

    private static Object[] arguments(Method method, String told) {
        Class<?>[] kinds = method.getParameterTypes();
        Object[] arguments = new Object[kinds.length];
        String[] parts = told.split(", *");
        for (int i = 0; i < kinds.length; i++) {
            arguments[i] = kinds[i] == boolean.class ? (Object) Boolean.valueOf(parts[i]) : Integer.valueOf(parts[i]);
        }
        return arguments;
    }
}
