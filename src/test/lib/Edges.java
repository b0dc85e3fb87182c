import java.io.IOException;
import java.lang.reflect.InvocationTargetException;
import java.lang.reflect.Method;
import java.nio.file.Files;
import java.nio.file.Path;
import java.util.ArrayList;
import java.util.Arrays;
import java.util.Comparator;
import java.util.List;

/**
 * Runs the tests of a class one by one, each of which bears the words that it is for, and sees to it that
 * the chapters of the document that the class is for have no words without a test.
 */
final class Edges {
    static final int MIN = Integer.MIN_VALUE;
    static final int MAX = Integer.MAX_VALUE;
    private static final Path DOCUMENT = Path.of("../shared/DOC.md");

    private static List<String> faults = new ArrayList<>();

    private Edges() {
    }

    static void due(String what, long got, long want) {
        if (got != want) {
            faults.add(what + " answered " + got + ", due is " + want);
        }
    }

    static void due(String what, boolean got, boolean want) {
        if (got != want) {
            faults.add(what + " answered " + got + ", due is " + want);
        }
    }

    /** Runs all tests of a class and ends with exit code 1 if one failed or if words have no test. */
    static void main(Class<?> tests, String... chapters) throws IOException {
        int wrong = 0;
        List<Method> all = testsOf(tests);
        for (Method test : all) {
            for (String fault : run(test)) {
                Says says = test.getAnnotation(Says.class);
                System.out.println(says.at() + ": \"" + says.words() + "\", " + test.getName() + ": " + fault);
                wrong++;
            }
        }
        String document = Files.readString(DOCUMENT);
        for (String chapter : chapters) {
            wrong += uncovered(chapter, document, all);
        }
        wrong += strayed(all, chapters);
        System.out.println(all.size() + " tests, " + wrong + " faults");
        if (wrong != 0) {
            System.exit(1);
        }
    }

    static List<Method> testsOf(Class<?> tests) {
        List<Method> all = new ArrayList<>();
        for (Method method : tests.getDeclaredMethods()) {
            if (method.isAnnotationPresent(Says.class)) {
                method.setAccessible(true);
                all.add(method);
            }
        }
        all.sort(Comparator.comparing(Method::getName));
        return all;
    }

    /** What a test found; what it threw counts too, as no call may throw. */
    static List<String> run(Method test) {
        faults = new ArrayList<>();
        try {
            test.invoke(null);
        } catch (InvocationTargetException thrown) {
            faults.add("threw " + thrown.getCause());
        } catch (IllegalAccessException closed) {
            faults.add("can't be run: " + closed);
        }
        return faults;
    }

    private static int strayed(List<Method> all, String[] chapters) {
        int wrong = 0;
        for (Method test : all) {
            if (!Arrays.asList(chapters).contains(test.getAnnotation(Says.class).at())) {
                System.out.println(test.getName() + " is for a chapter that this class is not for");
                wrong++;
            }
        }
        return wrong;
    }

    /** How many pieces of a chapter have no test, and how many tests have words that don't stand in it once. */
    private static int uncovered(String chapter, String document, List<Method> all) {
        String text = chapterOf(chapter, document);
        boolean[] covered = new boolean[text.length()];
        int wrong = 0;
        for (Method test : all) {
            Says says = test.getAnnotation(Says.class);
            if (!says.at().equals(chapter)) {
                continue;
            }
            int from = text.indexOf(says.words());
            if (from < 0 || from != text.lastIndexOf(says.words())) {
                System.out.println(chapter + " has not just once: \"" + says.words() + "\" of " + test.getName());
                wrong++;
            } else {
                Arrays.fill(covered, from, from + says.words().length(), true);
            }
        }
        return wrong + gaps(chapter, text, covered);
    }

    private static int gaps(String chapter, String text, boolean[] covered) {
        int wrong = 0;
        StringBuilder gap = new StringBuilder();
        for (int i = 0; i <= text.length(); i++) {
            if (i < text.length() && !covered[i]) {
                gap.append(text.charAt(i));
            } else if (gap.length() > 0) {
                if (gap.chars().anyMatch(sign -> sign > ' ')) {
                    System.out.println(chapter + " has words without a test: \"" + gap + "\"");
                    wrong++;
                }
                gap.setLength(0);
            }
        }
        return wrong;
    }

    /** A chapter without its heading, the face of its call and the marks of blocks, in one line. */
    private static String chapterOf(String chapter, String document) {
        String[][] parts = {{"I", "## Terms\n", "==== II."}, {"II", "==== II.", "==== III."},
            {"III", "==== III.", "==== IV."}, {"IV", "==== IV.", "\n## Promise 1:"}};
        for (String[] part : parts) {
            if (part[0].equals(chapter)) {
                return plain(between(document, part[1], part[2]));
            }
        }
        boolean promise = Character.isDigit(chapter.charAt(0));
        String text = between(document, promise ? "## Promise " + chapter + ":" : "## " + chapter + "\n", "\n## ");
        int face = text.indexOf("`: ");
        return plain(promise && face >= 0 ? text.substring(face + 3) : text);
    }

    private static String between(String document, String head, String foot) {
        int from = document.indexOf(head);
        if (from < 0) {
            return "";
        }
        int to = document.indexOf(foot, from + head.length());
        return document.substring(from + head.length(), to < 0 ? document.length() : to);
    }

    private static String plain(String text) {
        return text.replaceAll("(?m)^```.*$", "").replaceAll("\\s+", " ").trim();
    }
}
