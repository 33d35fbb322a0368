import java.io.IOException;
import java.lang.reflect.InvocationTargetException;
import java.lang.reflect.Method;
import java.lang.reflect.Modifier;
import java.nio.file.Files;
import java.nio.file.Path;
import java.util.TreeSet;
import java.util.regex.Matcher;
import java.util.regex.Pattern;

/** Makes the calls of README.md, in their order and on one table, and looks at the answers told there. */
public final class ReadmeTest {
    private static final Path README = Path.of("README.md");
    private static final Pattern MADE = Pattern.compile("ParcelledTable table = new ParcelledTable\\(\\);");
    private static final Pattern CALL =
        Pattern.compile("table\\.(\\w+)\\(([-0-9, ]*)\\);\\s+// (throws \\w+|true|false|-?\\d+)(:.*)?");

    private final Checks checks = new Checks("ReadmeTest");
    private final TreeSet<String> notCalled = publicNames();
    private ParcelledTable table;

    public static void main(String[] args) throws IOException, ReflectiveOperationException {
        new ReadmeTest().all();
    }

    private void all() throws IOException, ReflectiveOperationException {
        boolean inCode = false;
        for (String line : Files.readAllLines(README)) {
            if (line.startsWith("```")) {
                inCode = line.equals("```java");
            } else if (inCode) {
                oneLine(line);
            }
        }
        checks.report("calls of the face that README.md does not show", "[]", notCalled.toString());
        checks.end();
    }

    private void oneLine(String line) throws ReflectiveOperationException {
        Matcher call = CALL.matcher(line);
        if (MADE.matcher(line).matches()) {
            table = new ParcelledTable();
        } else if (call.matches() && table != null) {
            notCalled.remove(call.group(1));
            checks.report(line, call.group(3), answer(call.group(1), call.group(2)));
        } else {
            checks.report(line, "a call with its answer", "something else");
        }
    }

    private String answer(String name, String arguments) throws ReflectiveOperationException {
        String[] texts = arguments.isEmpty() ? new String[0] : arguments.split(", ");
        Class<?>[] types = new Class<?>[texts.length];
        Object[] values = new Object[texts.length];
        for (int i = 0; i < texts.length; i++) {
            types[i] = int.class;
            values[i] = Integer.valueOf(texts[i]);
        }
        try {
            return ParcelledTable.class.getMethod(name, types).invoke(table, values).toString();
        } catch (InvocationTargetException thrown) {
            return "throws " + thrown.getCause().getClass().getSimpleName();
        }
    }

    private static TreeSet<String> publicNames() {
        TreeSet<String> names = new TreeSet<>();
        for (Method method : ParcelledTable.class.getDeclaredMethods()) {
            if (Modifier.isPublic(method.getModifiers())) {
                names.add(method.getName());
            }
        }
        return names;
    }
}
