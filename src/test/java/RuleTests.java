import java.io.IOException;
import java.lang.reflect.Array;
import java.lang.reflect.Constructor;
import java.lang.reflect.Field;
import java.lang.reflect.Method;
import java.lang.reflect.Modifier;
import java.nio.file.Files;
import java.nio.file.Path;
import java.util.Set;
import java.util.TreeSet;
import java.util.regex.Matcher;
import java.util.regex.Pattern;

/** The rules of LANGUAGE.md that a look at the source and at the compiled class can tell. */
public final class RuleTests {
    private static final String FACE = "boolean holds(int,int); int load(int,int,int,int,int); int leg(int,int,int); "
            + "boolean cleaning(int); int way(int,int,int); int wayLeg(int,int,int,int); int move(int,int,int); "
            + "int dry(int,int,int,int); long ship(int,int); int binOf(int,int); long dryIn(int); "
            + "int truck(int,int,int); boolean pit(int,int); int rush(); int served(int,int); int gone(); "
            + "boolean hour(int,boolean,int); boolean needs(int,int,int); int fans(); int fansOf(int); "
            + "long blend(int,int,int,int); int blended(int); int feed(int,int,int,int,int); int end(int); int list(); "
            + "int fault(int); int worth(int); long account(int,int); long about(int)";
    private static final String[] BARRED = {"throw", "throws", "try", "catch", "finally", "synchronized", "assert",
        "import", "package", "protected", "Object", "System.out", "Exact", "random", "equals", "hashCode"};

    private static int wrong = 0;

    public static void main(String[] args) throws IOException, IllegalAccessException {
        String source = plain(Files.readString(Path.of("src/main/java/GrainHouse.java")));
        face();
        classes();
        words(source);
        methods(source);
        objects(source);
        room();
        System.out.println(wrong == 0 ? "all rules are kept" : wrong + " rules are not kept");
        if (wrong != 0) {
            System.exit(1);
        }
    }

    private static void rule(int number, boolean kept, String what) {
        if (!kept) {
            wrong++;
            System.out.println("rule " + number + ": " + what);
        }
    }

    /** Without comments and the insides of texts, the lines as they were. */
    private static String plain(String source) {
        Matcher m = Pattern.compile("/\\*.*?\\*/|//[^\n]*|\"[^\"\n]*\"", Pattern.DOTALL).matcher(source);
        return m.replaceAll(found -> found.group().startsWith("\"") ? "\"\"" : found.group().replaceAll("[^\n]", " "));
    }

    private static Set<String> names() {
        Set<String> names = new TreeSet<>();
        Matcher m = Pattern.compile("(\\w+)\\(").matcher(FACE);
        while (m.find()) {
            names.add(m.group(1));
        }
        return names;
    }

    private static void face() {
        int modifiers = GrainHouse.class.getModifiers();
        rule(1, Modifier.isPublic(modifiers) && Modifier.isFinal(modifiers), "the class is public and final");
        Set<String> due = new TreeSet<>(Set.of(FACE.split("; ")));
        Set<String> found = new TreeSet<>();
        for (Method method : GrainHouse.class.getDeclaredMethods()) {
            if (!Modifier.isPrivate(method.getModifiers())) {
                String text = method.getReturnType() + " " + method.getName() + "(";
                for (int i = 0; i < method.getParameterCount(); i++) {
                    text += (i == 0 ? "" : ",") + method.getParameterTypes()[i];
                }
                found.add(text + ")");
                rule(1, Modifier.isPublic(method.getModifiers()), method + " is public");
            }
        }
        rule(1, found.equals(due), "the face is " + found);
        for (Field field : GrainHouse.class.getDeclaredFields()) {
            boolean isNone = field.getName().equals("NONE") && Modifier.isPublic(field.getModifiers());
            rule(1, isNone || Modifier.isPrivate(field.getModifiers()), field + " is private");
        }
        Constructor<?>[] makers = GrainHouse.class.getDeclaredConstructors();
        boolean one = makers.length == 1 && makers[0].getParameterCount() == 0;
        rule(1, one && Modifier.isPublic(makers[0].getModifiers()), "one public constructor");
    }

    private static void classes() {
        Class<?>[] inside = GrainHouse.class.getDeclaredClasses();
        rule(11, inside.length < 12, "twelve classes at most");
        checkFields(GrainHouse.class);
        for (Class<?> each : inside) {
            rule(2, Modifier.isStatic(each.getModifiers()), each + " is static");
            rule(1, !Modifier.isPublic(each.getModifiers()), each + " is not public");
            rule(2, each.getDeclaredClasses().length == 0, each + " has no class inside");
            checkFields(each);
            for (Method method : each.getDeclaredMethods()) {
                rule(1, !names().contains(method.getName()), method + " bears a public name");
                rule(11, method.getParameterCount() <= 7, method + " takes seven at most");
            }
        }
    }

    private static void checkFields(Class<?> owner) {
        int own = 0;
        for (Field field : owner.getDeclaredFields()) {
            if (Modifier.isStatic(field.getModifiers())) {
                boolean plain = field.getType().isPrimitive() || field.getType() == String.class;
                rule(5, Modifier.isFinal(field.getModifiers()) && plain, field + " is a constant");
            } else {
                own++;
            }
        }
        rule(11, own <= 20, owner + " has twenty fields at most");
    }

    private static void words(String source) {
        for (String word : BARRED) {
            boolean found = Pattern.compile("\\b" + Pattern.quote(word) + "\\b").matcher(source).find();
            rule(6, !found, word + " stands in the source");
        }
        rule(2, !source.contains("->") && !source.contains("::"), "no lambda, no method reference");
        rule(4, source.chars().allMatch(sign -> sign == '\n' || sign >= 32 && sign < 127), "plain signs alone");
        Matcher library = Pattern.compile("\\b(System|Arrays|Math|Integer|Long)\\.(\\w+)").matcher(source);
        Set<String> known = Set.of("System.arraycopy", "Arrays.fill", "Math.min", "Math.max");
        while (library.find()) {
            rule(4, known.contains(library.group()), library.group() + " is not among those that this test knows");
        }
    }

    private static void methods(String source) {
        Set<String> names = names();
        String[] lines = source.split("\n");
        Pattern head = Pattern.compile("^( {4}| {8})(private |public |static |final )*[\\w\\[\\]]+ (\\w+)\\(.*\\{$");
        for (int i = 0; i < lines.length; i++) {
            Matcher m = head.matcher(lines[i]);
            if (m.matches()) {
                int last = i;
                while (last < lines.length && !lines[last].equals(m.group(1) + "}")) {
                    last++;
                }
                rule(11, last - i <= 60, m.group(3) + " is of " + (last - i) + " lines");
                boolean open = lines[i].contains("public ");
                rule(1, open || !names.contains(m.group(3)), m.group(3) + " bears a public name");
            }
        }
    }

    /** Rows are made with the object: a call makes none, so its calls never fill the room. */
    private static void objects(String source) {
        for (String line : source.split("\n")) {
            if (line.contains("new ")) {
                boolean field = line.matches(" {4,8}(private |final )+[\\w\\[\\]]+ \\w+ = new [\\w]+[\\[(].*;");
                rule(12, field, "made outside a field: " + line.trim());
            }
        }
    }

    private static void room() throws IllegalAccessException {
        int[] sum = new int[2];
        count(new GrainHouse(), sum);
        rule(12, sum[0] <= 80 && sum[1] <= 1500, sum[0] + " objects and " + sum[1] + " elements in one house");
    }

    private static void count(Object x, int[] sum) throws IllegalAccessException {
        sum[0]++;
        if (x.getClass().isArray()) {
            sum[1] += Array.getLength(x);
            return;
        }
        for (Field field : x.getClass().getDeclaredFields()) {
            if (!Modifier.isStatic(field.getModifiers())) {
                sum[1]++;
                field.setAccessible(true);
                if (!field.getType().isPrimitive()) {
                    count(field.get(x), sum);
                }
            }
        }
    }
}
