import java.io.IOException;
import java.lang.reflect.Method;
import java.lang.reflect.Modifier;
import java.nio.file.Files;
import java.nio.file.Path;
import java.util.Set;
import java.util.TreeSet;
import java.util.regex.Matcher;
import java.util.regex.Pattern;

/** Holds the examples of README.md to what stands behind them, and sees to it that each call has one. */
public final class ReadmeTests {
    private static final Pattern LINE = Pattern.compile("house\\.(\\w+)\\((.*?)\\); *// (true|false|-?\\d+)(:.*)?");

    public static void main(String[] args) throws IOException, ReflectiveOperationException {
        GrainHouse house = new GrainHouse();
        Set<String> missing = new TreeSet<>();
        for (Method method : GrainHouse.class.getDeclaredMethods()) {
            if (Modifier.isPublic(method.getModifiers())) {
                missing.add(method.getName());
            }
        }
        int wrong = 0;
        for (String line : Files.readAllLines(Path.of("README.md"))) {
            if (!line.startsWith("house.")) {
                continue;
            }
            Matcher m = LINE.matcher(line);
            if (!m.matches()) {
                System.out.println("no answer can be read: " + line);
                wrong++;
                continue;
            }
            missing.remove(m.group(1));
            String got = call(house, m.group(1), m.group(2));
            if (!got.equals(m.group(3))) {
                System.out.println("answered " + got + ": " + line);
                wrong++;
            }
        }
        System.out.println(wrong + " examples are not as due, calls without one: " + missing);
        if (wrong != 0 || !missing.isEmpty()) {
            System.exit(1);
        }
    }

    private static String call(GrainHouse house, String name, String arguments) throws ReflectiveOperationException {
        String[] texts = arguments.isEmpty() ? new String[0] : arguments.split(", ");
        for (Method method : GrainHouse.class.getMethods()) {
            if (method.getName().equals(name) && method.getParameterCount() == texts.length) {
                Object[] values = new Object[texts.length];
                for (int i = 0; i < texts.length; i++) {
                    values[i] = value(texts[i]);
                }
                return String.valueOf(method.invoke(house, values));
            }
        }
        return "nothing, as there is no such call";
    }

    private static Object value(String text) {
        switch (text) {
            case "true":
            case "false":
                return Boolean.valueOf(text);
            case "GrainHouse.NONE":
                return GrainHouse.NONE;
            default:
                return Integer.decode(text);
        }
    }
}
