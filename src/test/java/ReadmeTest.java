import java.lang.reflect.Method;
import java.nio.file.Files;
import java.nio.file.Path;
import java.util.Set;
import java.util.TreeSet;
import java.util.regex.Matcher;
import java.util.regex.Pattern;

/** README.md shows every call of the face, and each call answers the figure that stands behind it there. */
public final class ReadmeTest {
    private static final Check CHECK = new Check();
    private static final Pattern TEXT = Pattern.compile("\"(S[^\"]*)\"");
    private static final Pattern CALL = Pattern.compile("^x\\.(\\w+)\\(([^)]*)\\);\\s*// (-?\\d+)\\b");

    public static void main(String[] args) throws Exception {
        String shown = example(Files.readString(Path.of("README.md")));
        Set<String> calls = new TreeSet<>();
        Matcher text = TEXT.matcher(shown);
        CHECK.due("a text is shown", 1, text.find() ? 1 : 0);
        GreenJars x = Check.written(text.group(1));
        calls.add("write");
        for (String line : shown.split("\n")) {
            Matcher call = CALL.matcher(line);
            boolean isCall = call.find();
            CHECK.due("a figure stands behind " + line, line.startsWith("x.") ? 1 : 0, isCall ? 1 : 0);
            if (isCall) {
                calls.add(call.group(1));
                CHECK.due(line, Long.parseLong(call.group(3)), answer(x, call.group(1), call.group(2)));
            }
        }
        CHECK.due("calls that are shown: " + calls, 1, calls.equals(face()) ? 1 : 0);
        CHECK.end("ReadmeTest");
    }

    private static String example(String readme) {
        int from = readme.indexOf("```java");
        int to = readme.indexOf("```", from + 3);
        if (from < 0 || to < 0) {
            throw new IllegalStateException("README.md shows no calls");
        }
        return readme.substring(from, to);
    }

    private static Set<String> face() {
        Set<String> names = new TreeSet<>();
        for (Method method : GreenJars.class.getMethods()) {
            if (method.getDeclaringClass() == GreenJars.class) {
                names.add(method.getName());
            }
        }
        return names;
    }

    private static long answer(GreenJars x, String name, String told) throws Exception {
        for (Method method : GreenJars.class.getMethods()) {
            if (method.getDeclaringClass() == GreenJars.class && method.getName().equals(name)) {
                return ((Number) method.invoke(x, arguments(method.getParameterTypes(), told))).longValue();
            }
        }
        throw new IllegalStateException("there is no call " + name);
    }

    private static Object[] arguments(Class<?>[] types, String told) {
        String[] parts = told.isEmpty() ? new String[0] : told.split(", ");
        if (parts.length != types.length) {
            throw new IllegalStateException("not so many arguments: " + told);
        }
        Object[] arguments = new Object[parts.length];
        for (int k = 0; k < parts.length; k++) {
            if (types[k] == boolean.class) {
                arguments[k] = Boolean.valueOf(parts[k]);
            } else if (types[k] == long.class) {
                arguments[k] = Long.valueOf(parts[k]);
            } else {
                arguments[k] = Integer.valueOf(parts[k]);
            }
        }
        return arguments;
    }
}
