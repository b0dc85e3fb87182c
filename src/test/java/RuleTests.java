import java.io.IOException;
import java.lang.reflect.Array;
import java.lang.reflect.Constructor;
import java.lang.reflect.Field;
import java.lang.reflect.Method;
import java.lang.reflect.Modifier;
import java.nio.file.Files;
import java.nio.file.Path;
import java.util.Set;
import java.util.TreeSet;
import java.util.regex.Matcher;
import java.util.regex.Pattern;

/** The rules of LANGUAGE.md that a look at the source and at the compiled class can tell. */
public final class RuleTests {
    private static final Pattern CALL = Pattern.compile("public (int|long|boolean) (\\w+)\\((.*)\\);");
    private static final Pattern CONSTANT = Pattern.compile("public static final int (\\w+) = (-?\\d+);");
    private static final String[] BARRED = {"throw", "throws", "try", "catch", "finally", "synchronized", "assert",
        "import", "package", "protected", "Object", "System.out", "Exact", "random", "equals", "hashCode"};

    private static int wrong = 0;

    public static void main(String[] args) throws IOException, IllegalAccessException {
        String source = plain(Files.readString(Path.of("src/main/java/GrainHouse.java")));
        String face = face();
        calls(face);
        members(face);
        classes();
        words(source);
        methods(source);
        objects(source);
        room();
        System.out.println(wrong == 0 ? "all rules are kept" : wrong + " rules are not kept");
        if (wrong != 0) {
            System.exit(1);
        }
    }

    private static void rule(int number, boolean kept, String what) {
        if (!kept) {
            wrong++;
            System.out.println("rule " + number + ": " + what);
        }
    }

    /** Without comments and the insides of texts, the lines as they were. */
    private static String plain(String source) {
        Matcher m = Pattern.compile("/\\*.*?\\*/|//[^\n]*|\"[^\"\n]*\"", Pattern.DOTALL).matcher(source);
        return m.replaceAll(found -> found.group().startsWith("\"") ? "\"\"" : found.group().replaceAll("[^\n]", " "));
    }

    /** The document's chapter of that name. */
    private static String face() throws IOException {
        String document = Files.readString(Path.of("../shared/DOC.md"));
        int from = document.indexOf("## The public face");
        int to = document.indexOf("\n## ", from + 1);
        return from < 0 || to < 0 ? "" : document.substring(from, to);
    }

    private static Set<String> names() {
        Set<String> names = new TreeSet<>();
        for (Method method : GrainHouse.class.getDeclaredMethods()) {
            if (Modifier.isPublic(method.getModifiers())) {
                names.add(method.getName());
            }
        }
        return names;
    }

    private static void calls(String face) {
        Set<String> due = new TreeSet<>();
        Matcher m = CALL.matcher(face);
        while (m.find()) {
            String types = m.group(3).replaceAll(" \\w+(,|$)", "$1").replace(" ", "");
            due.add(m.group(1) + " " + m.group(2) + "(" + types + ")");
        }
        Set<String> found = new TreeSet<>();
        for (Method method : GrainHouse.class.getDeclaredMethods()) {
            if (!Modifier.isPrivate(method.getModifiers())) {
                String text = method.getReturnType() + " " + method.getName() + "(";
                for (int i = 0; i < method.getParameterCount(); i++) {
                    text += (i == 0 ? "" : ",") + method.getParameterTypes()[i];
                }
                found.add(text + ")");
                rule(1, Modifier.isPublic(method.getModifiers()), method + " is public");
                rule(1, !Modifier.isStatic(method.getModifiers()), method + " is of an object");
            }
        }
        rule(1, found.size() > 0 && found.equals(due), "the face is " + found + ", due is " + due);
    }

    private static void members(String face) throws IllegalAccessException {
        int modifiers = GrainHouse.class.getModifiers();
        rule(1, Modifier.isPublic(modifiers) && Modifier.isFinal(modifiers), "the class is public and final");
        Set<String> due = new TreeSet<>();
        Matcher m = CONSTANT.matcher(face);
        while (m.find()) {
            due.add(m.group(1) + " = " + m.group(2));
        }
        Set<String> found = new TreeSet<>();
        for (Field field : GrainHouse.class.getDeclaredFields()) {
            if (!Modifier.isPrivate(field.getModifiers())) {
                boolean constant = Modifier.isStatic(field.getModifiers()) && Modifier.isFinal(field.getModifiers());
                boolean open = constant && Modifier.isPublic(field.getModifiers());
                rule(1, open && field.getType() == int.class, field + " is a public constant");
                found.add(field.getName() + " = " + (open ? field.get(null) : "none"));
            }
        }
        rule(1, found.size() > 0 && found.equals(due), "the constants are " + found + ", due is " + due);
        Constructor<?>[] makers = GrainHouse.class.getDeclaredConstructors();
        boolean one = makers.length == 1 && makers[0].getParameterCount() == 0;
        rule(1, one && Modifier.isPublic(makers[0].getModifiers()), "one public constructor");
    }

    private static void classes() {
        Class<?>[] inside = GrainHouse.class.getDeclaredClasses();
        rule(11, inside.length < 12, "twelve classes at most");
        checkFields(GrainHouse.class);
        for (Class<?> each : inside) {
            rule(2, Modifier.isStatic(each.getModifiers()), each + " is static");
            rule(1, !Modifier.isPublic(each.getModifiers()), each + " is not public");
            rule(2, each.getDeclaredClasses().length == 0, each + " has no class inside");
            checkFields(each);
            for (Method method : each.getDeclaredMethods()) {
                rule(1, !names().contains(method.getName()), method + " bears a public name");
                rule(11, method.getParameterCount() <= 7, method + " takes seven at most");
            }
        }
    }

    private static void checkFields(Class<?> owner) {
        int own = 0;
        for (Field field : owner.getDeclaredFields()) {
            if (Modifier.isStatic(field.getModifiers())) {
                boolean plain = field.getType().isPrimitive() || field.getType() == String.class;
                rule(5, Modifier.isFinal(field.getModifiers()) && plain, field + " is a constant");
            } else {
                own++;
            }
        }
        rule(11, own <= 20, owner + " has twenty fields at most");
    }

    private static void words(String source) {
        for (String word : BARRED) {
            boolean found = Pattern.compile("\\b" + Pattern.quote(word) + "\\b").matcher(source).find();
            rule(6, !found, word + " stands in the source");
        }
        rule(2, !source.contains("->") && !source.contains("::"), "no lambda, no method reference");
        rule(4, source.chars().allMatch(sign -> sign == '\n' || sign >= 32 && sign < 127), "plain signs alone");
        Matcher library = Pattern.compile("\\b(System|Arrays|Math|Integer|Long)\\.(\\w+)").matcher(source);
        Set<String> known = Set.of("System.arraycopy", "Arrays.fill", "Math.min", "Math.max");
        while (library.find()) {
            rule(4, known.contains(library.group()), library.group() + " is not among those that this test knows");
        }
    }

    private static void methods(String source) {
        Set<String> names = names();
        String[] lines = source.split("\n");
        Pattern head = Pattern.compile("^( {4}| {8})(private |public |static |final )*[\\w\\[\\]]+ (\\w+)\\(.*\\{$");
        for (int i = 0; i < lines.length; i++) {
            Matcher m = head.matcher(lines[i]);
            if (m.matches()) {
                int last = i;
                while (last < lines.length && !lines[last].equals(m.group(1) + "}")) {
                    last++;
                }
                rule(11, last - i <= 60, m.group(3) + " is of " + (last - i) + " lines");
                boolean open = lines[i].contains("public ");
                rule(1, open || !names.contains(m.group(3)), m.group(3) + " bears a public name");
            }
        }
    }

    /** Rows are made with the object: a call makes none, so its calls never fill the room. */
    private static void objects(String source) {
        for (String line : source.split("\n")) {
            if (line.contains("new ")) {
                boolean field = line.matches(" {4,8}(private |final )+[\\w\\[\\]]+ \\w+ = new [\\w]+[\\[(].*;");
                rule(12, field, "made outside a field: " + line.trim());
            }
        }
    }

    private static void room() throws IllegalAccessException {
        int[] sum = new int[2];
        count(new GrainHouse(), sum);
        rule(12, sum[0] <= 80 && sum[1] <= 1500, sum[0] + " objects and " + sum[1] + " elements in one house");
    }

    private static void count(Object x, int[] sum) throws IllegalAccessException {
        sum[0]++;
        if (x.getClass().isArray()) {
            sum[1] += Array.getLength(x);
            return;
        }
        for (Field field : x.getClass().getDeclaredFields()) {
            if (!Modifier.isStatic(field.getModifiers())) {
                sum[1]++;
                field.setAccessible(true);
                if (!field.getType().isPrimitive()) {
                    count(field.get(x), sum);
                }
            }
        }
    }
}
