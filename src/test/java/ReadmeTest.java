import java.io.IOException;
import java.lang.reflect.InvocationTargetException;
import java.lang.reflect.Method;
import java.nio.file.Files;
import java.nio.file.Path;
import java.util.regex.Matcher;
import java.util.regex.Pattern;

/** README.md, whose run of calls answers what stands behind each. It is run from the project's root. */
public final class ReadmeTest {
    private static final Checks CHECKS = new Checks();
    private static final Pattern CALL = Pattern.compile("x\\.(\\w+)\\(([^)]*)\\);\\s*// (throws \\w+|-?\\d+).*");

    private ReadmeTest() {
    }

    public static void main(String[] args) throws IOException, ReflectiveOperationException {
        String readme = Files.readString(Path.of("README.md"));
        int from = readme.indexOf("```java");
        String run = readme.substring(from, readme.indexOf("```\n", from + 3));
        WasmMerge x = new WasmMerge();
        StringBuilder names = new StringBuilder();
        for (String line : run.split("\n")) {
            Matcher call = CALL.matcher(line);
            if (call.matches()) {
                names.append(call.group(1)).append(' ');
                CHECKS.sameText(line, answer(x, call.group(1), call.group(2)), call.group(3));
            } else {
                CHECKS.same("a call without an answer: " + line, line.startsWith("x.") ? 1 : 0, 0);
            }
        }
        for (String name : "feed end add merge begin argument call global memory count take trap clear".split(" ")) {
            CHECKS.same("the run has " + name, names.indexOf(name + " ") >= 0 ? 1 : 0, 1);
        }
        CHECKS.finish("ReadmeTest");
    }

    private static String answer(WasmMerge x, String name, String given) throws ReflectiveOperationException {
        String[] texts = given.isEmpty() ? new String[0] : given.split(", ");
        Object[] values = new Object[texts.length];
        Method method = named(name);
        for (int i = 0; i < texts.length; i++) {
            long value = Long.decode(texts[i]);
            if (method.getParameterTypes()[i] == long.class) {
                values[i] = value;
            } else {
                values[i] = (int) value;
            }
        }
        try {
            return String.valueOf(method.invoke(x, values));
        } catch (InvocationTargetException e) {
            return "throws " + e.getCause().getClass().getSimpleName();
        }
    }

    private static Method named(String name) throws NoSuchMethodException {
        for (Method method : WasmMerge.class.getMethods()) {
            if (method.getDeclaringClass() == WasmMerge.class && method.getName().equals(name)) {
                return method;
            }
        }
        throw new NoSuchMethodException(name);
    }
}
