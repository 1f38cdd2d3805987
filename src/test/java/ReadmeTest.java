import java.io.IOException;
import java.lang.reflect.Method;
import java.lang.reflect.Modifier;
import java.nio.file.Files;
import java.nio.file.Path;
import java.util.TreeSet;
import java.util.regex.Matcher;
import java.util.regex.Pattern;

/** Promises 1 to 25 as README.md shows them: each call answers what stands behind it, and every method is shown. */
public final class ReadmeTest {
    private static final Pattern CALL = Pattern.compile("piles\\.(\\w+)\\(([^)]*)\\); *// (-?\\d+)(?:: .*)?");

    private final Due due = new Due("ReadmeTest");
    private final TreeSet<String> missing = new TreeSet<>();
    private RisingPiles piles;

    public static void main(String[] args) throws IOException, ReflectiveOperationException {
        ReadmeTest test = new ReadmeTest();
        for (Method method : RisingPiles.class.getDeclaredMethods()) {
            if (Modifier.isPublic(method.getModifiers())) {
                test.missing.add(method.getName());
            }
        }
        boolean java = false;
        for (String line : Files.readAllLines(Path.of("README.md"))) {
            java = line.startsWith("```") ? line.equals("```java") : java;
            if (java) {
                test.follow(line.strip());
            }
        }
        test.due.isTrue("every method is shown, but for " + test.missing, test.missing.isEmpty());
        test.due.end();
    }

    private void follow(String line) throws ReflectiveOperationException {
        Matcher call = CALL.matcher(line);
        if (line.equals("RisingPiles piles = new RisingPiles();")) {
            piles = new RisingPiles();
        } else if (call.matches() && piles != null) {
            due.is(line, answer(call.group(1), call.group(2)), Integer.parseInt(call.group(3)));
        } else {
            due.isTrue("this line can be followed: " + line, line.isEmpty() || line.startsWith("//") || line.startsWith("```"));
        }
    }

    private int answer(String name, String arguments) throws ReflectiveOperationException {
        missing.remove(name);
        String[] parts = arguments.isEmpty() ? new String[0] : arguments.split(", ");
        Class<?>[] types = new Class<?>[parts.length];
        Object[] values = new Object[parts.length];
        for (int i = 0; i < parts.length; i++) {
            boolean sign = parts[i].startsWith("'");
            types[i] = sign ? char.class : int.class;
            values[i] = sign ? (Object) parts[i].charAt(1) : (Object) Integer.valueOf(parts[i]);
        }
        return (Integer) RisingPiles.class.getMethod(name, types).invoke(piles, values);
    }
}
