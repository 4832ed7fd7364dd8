import java.io.IOException;
import java.lang.reflect.Method;
import java.nio.charset.StandardCharsets;
import java.nio.file.Files;
import java.nio.file.Path;
import java.util.regex.Matcher;
import java.util.regex.Pattern;

/** The calls in README.md, one behind the other on one object, answer what it says; and it names every call. */
public final class ReadmeTest extends Checks {
    private static final Pattern CALL = Pattern.compile("x\\.(\\w+)\\(([^)]*)\\);\\s*// (true|false|-?\\d+)\\b.*");

    private static Method methodOf(String name) {
        for (Method m : StampTales.class.getMethods()) {
            if (m.getName().equals(name)) {
                return m;
            }
        }
        return null;
    }

    private static Object valueOf(String word) {
        if (word.equals("true") || word.equals("false")) {
            return word.equals("true");
        }
        return Integer.decode(word);
    }

    private static Object answer(StampTales x, Method m, String words) throws ReflectiveOperationException {
        String[] each = words.isEmpty() ? new String[0] : words.split(",\\s*");
        Object[] values = new Object[each.length];
        for (int i = 0; i < each.length; i++) {
            values[i] = valueOf(each[i]);
        }
        return m.invoke(x, values);
    }

    private static int callAll(String text) throws ReflectiveOperationException {
        StampTales x = new StampTales();
        int calls = 0;
        for (String line : text.split("\n")) {
            Matcher call = CALL.matcher(line);
            if (call.matches()) {
                Object got = answer(x, methodOf(call.group(1)), call.group(2));
                due(line + " (answered " + got + ")", got.equals(valueOf(call.group(3))), true);
                calls++;
            } else {
                due("whether a call without an answer is none: " + line, line.startsWith("x."), false);
            }
        }
        return calls;
    }

    public static void main(String[] args) throws IOException, ReflectiveOperationException {
        String text = Files.readString(Path.of("README.md"), StandardCharsets.UTF_8);
        due("whether calls were found", callAll(text) >= 20, true);
        for (Method m : StampTales.class.getDeclaredMethods()) {
            boolean isPublic = java.lang.reflect.Modifier.isPublic(m.getModifiers());
            due("whether it names " + m.getName(), !isPublic || text.contains("`" + m.getName() + "`"), true);
        }
        report("ReadmeTest", "");
    }
}
