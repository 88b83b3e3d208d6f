import java.io.IOException;
import java.lang.reflect.Method;
import java.lang.reflect.Modifier;
import java.nio.file.Files;
import java.nio.file.Path;
import java.util.HashMap;
import java.util.Map;
import java.util.Set;
import java.util.TreeSet;
import java.util.regex.Matcher;
import java.util.regex.Pattern;

/** README.md's example is done call by call, so that what it tells a reader stays true. */
public final class ReadmeTest {
    private static final String BEGIN = "```java\nPolicyVerifier x = new PolicyVerifier();\n";
    private static final String END = "```";
    private static final Pattern LINE = Pattern.compile("(?:int (\\w+) = )?x\\.(\\w+)\\((.*)\\); +// (-?\\d+): .+");
    private static final Pattern SHIFTED = Pattern.compile("1L << (\\d+)");

    private final PolicyVerifier x = new PolicyVerifier();
    private final Map<String, Long> named = new HashMap<>();
    private final Set<String> shown = new TreeSet<>();

    public static void main(String[] args) throws IOException {
        new ReadmeTest().doExample(example(Files.readString(Path.of("README.md"))));
        Checks.end();
    }

    private static String[] example(String readme) {
        int begin = readme.indexOf(BEGIN);
        int end = readme.indexOf(END, begin + BEGIN.length());
        Checks.holds("README.md has an example of a new object", begin >= 0 && end >= 0);
        return begin >= 0 && end >= 0 ? readme.substring(begin + BEGIN.length(), end).split("\n") : new String[0];
    }

    private void doExample(String[] lines) {
        for (String line : lines) {
            Matcher parts = LINE.matcher(line);
            boolean isCall = parts.matches();
            Checks.holds("a call with its answer: " + line, isCall);
            if (isCall) {
                doLine(line, parts);
            }
        }
        Checks.holds("every method is shown, not only " + shown, shown.equals(face().keySet()));
    }

    private void doLine(String line, Matcher parts) {
        long told = Long.parseLong(parts.group(4));
        shown.add(parts.group(2));
        Checks.due(line, told, () -> call(parts.group(2), parts.group(3).split(", ")));
        if (parts.group(1) != null) {
            named.put(parts.group(1), told);
        }
    }

    private long call(String name, String[] arguments) {
        Method method = face().get(name);
        Class<?>[] types = method.getParameterTypes();
        Object[] values = new Object[types.length];
        for (int place = 0; place < values.length; place++) {
            long value = valueOf(arguments[place]);
            if (types[place] == int.class) {
                values[place] = (int) value;
            } else {
                values[place] = value;
            }
        }
        try {
            return ((Number) method.invoke(x, values)).longValue();
        } catch (ReflectiveOperationException e) {
            throw new RuntimeException(e);
        }
    }

    private long valueOf(String argument) {
        Matcher shifted = SHIFTED.matcher(argument);
        if (shifted.matches()) {
            return 1L << Integer.parseInt(shifted.group(1));
        }
        Long known = named.get(argument);
        return known != null ? known : Long.parseLong(argument.replace("L", ""));
    }

    private static Map<String, Method> face() {
        Map<String, Method> methods = new HashMap<>();
        for (Method method : PolicyVerifier.class.getDeclaredMethods()) {
            if (Modifier.isPublic(method.getModifiers())) {
                methods.put(method.getName(), method);
            }
        }
        return methods;
    }
}
