import java.lang.reflect.Method;
import java.lang.reflect.Modifier;
import java.nio.file.Files;
import java.nio.file.Path;
import java.util.List;
import java.util.Map;
import java.util.TreeMap;
import java.util.regex.Matcher;
import java.util.regex.Pattern;

/** README.md: each call that it tells answers as it says, and every call of the face is named there. */
public final class ReadmeTest {
    private static final Due due = new Due("ReadmeTest");
    private static final Pattern CALL = Pattern.compile("x\\.(\\w+)\\(([^)]*)\\); +// (-?\\d+)(:.*)?");
    private static final Map<String, Method> FACE = new TreeMap<>();
    private static ProvenRows x;

    /** Arguments as the page writes them, an int or a long each. */
    private static Object[] numbers(String told, Class<?>[] types) {
        String[] parts = told.isEmpty() ? new String[0] : told.split(", ");
        Object[] numbers = new Object[parts.length];
        for (int i = 0; i < parts.length; i++) {
            long number = Long.decode(parts[i].replace("L", ""));
            if (types[i] == long.class) {
                numbers[i] = number;
            } else {
                numbers[i] = Math.toIntExact(number);
            }
        }
        return numbers;
    }

    private static void line(String line) throws Exception {
        if (line.equals("ProvenRows x = new ProvenRows();")) {
            x = new ProvenRows();
        } else if (line.startsWith("x.")) {
            Matcher call = CALL.matcher(line);
            due.isTrue("a call and its answer: " + line, call.matches());
            Method method = FACE.get(call.group(1));
            due.isTrue("a call of the face: " + line, method != null);
            int got = (int) method.invoke(x, numbers(call.group(2), method.getParameterTypes()));
            due.is(line, got, Integer.parseInt(call.group(3)));
        }
    }

    public static void main(String[] args) throws Exception {
        for (Method method : ProvenRows.class.getDeclaredMethods()) {
            if (Modifier.isPublic(method.getModifiers())) {
                FACE.put(method.getName(), method);
            }
        }
        String page = Files.readString(Path.of("README.md"));
        List<String> lines = page.lines().map(String::strip).toList();
        for (String line : lines) {
            line(line);
        }
        due.isTrue("calls are told", lines.stream().filter(line -> line.startsWith("x.")).count() > 30);
        for (String name : FACE.keySet()) {
            due.isTrue("named: " + name, page.contains("`" + name + "`"));
        }
        due.end();
    }
}
