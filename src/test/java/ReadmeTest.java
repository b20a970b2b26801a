import java.lang.reflect.Method;
import java.lang.reflect.Modifier;
import java.nio.file.Files;
import java.nio.file.Path;
import java.util.HashSet;
import java.util.Map;
import java.util.Set;
import java.util.TreeMap;
import java.util.regex.Matcher;
import java.util.regex.Pattern;

/** The run that README.md shows: each call answers what stands behind it, and each call of the face is shown. */
public final class ReadmeTest {
    private static final Path README = Path.of("README.md");
    private static final Pattern CALL = Pattern.compile("x\\.(\\w+)\\((.*)\\);\\s+// (-?\\d+)\\b.*");

    private static final Due DUE = new Due("ReadmeTest");

    public static void main(String[] args) throws Exception {
        Map<String, Method> face = face();
        Set<String> shown = new HashSet<>();
        SliceSeller x = new SliceSeller();
        for (String line : exampleLines()) {
            Matcher call = CALL.matcher(line);
            boolean right = call.matches() && face.containsKey(call.group(1));
            DUE.holds("a call of the face and its answer: " + line, right);
            if (right) {
                shown.add(call.group(1));
                DUE.is(line, ask(face.get(call.group(1)), x, call.group(2)), Long.parseLong(call.group(3)));
            }
        }
        for (String name : face.keySet()) {
            DUE.holds(name + " is shown", shown.contains(name));
        }
        DUE.end();
    }

    private static Map<String, Method> face() {
        Map<String, Method> face = new TreeMap<>();
        for (Method m : SliceSeller.class.getDeclaredMethods()) {
            if (Modifier.isPublic(m.getModifiers())) {
                face.put(m.getName(), m);
            }
        }
        return face;
    }

    /** The lines with a call of what stands between "```java" and the next "```". */
    private static Iterable<String> exampleLines() throws Exception {
        String text = Files.readString(README);
        int first = text.indexOf("```java");
        int last = first < 0 ? -1 : text.indexOf("```\n", first + 1);
        DUE.holds("README.md has an example", last > first);
        return last > first ? text.substring(first, last).lines().filter(l -> l.startsWith("x."))::iterator : Set.of();
    }

    private static int ask(Method method, SliceSeller x, String written) throws Exception {
        String[] parts = written.isBlank() ? new String[0] : written.split(", ");
        Class<?>[] types = method.getParameterTypes();
        if (parts.length != types.length) {
            return Integer.MIN_VALUE;
        }
        Object[] values = new Object[parts.length];
        for (int i = 0; i < parts.length; i++) {
            values[i] = types[i] == boolean.class ? (Object) Boolean.valueOf(parts[i]) : (Object) Integer.valueOf(parts[i]);
        }
        return (int) method.invoke(x, values);
    }
}
