import java.io.ByteArrayOutputStream;
import java.io.IOException;
import java.io.OutputStream;
import java.lang.reflect.Method;
import java.net.URI;
import java.nio.file.Files;
import java.nio.file.Path;
import java.util.ArrayList;
import java.util.Comparator;
import java.util.HashMap;
import java.util.List;
import java.util.Map;
import java.util.Set;
import java.util.TreeMap;
import java.util.TreeSet;
import java.util.concurrent.ExecutorService;
import java.util.concurrent.Executors;
import java.util.concurrent.TimeUnit;
import java.util.regex.Matcher;
import java.util.regex.Pattern;
import javax.tools.FileObject;
import javax.tools.ForwardingJavaFileManager;
import javax.tools.JavaCompiler;
import javax.tools.JavaFileManager;
import javax.tools.JavaFileObject;
import javax.tools.SimpleJavaFileObject;
import javax.tools.ToolProvider;

/**
 * Changes the class at one place at a time and runs the tests by sentence against each such mutant: a test
 * that no mutant fails holds nothing, and a mutant that fails no test is a place to look at. Not a test: it
 * is run by hand, by .ci/mutants, with the folder of the compiled tests as its argument.
 */
public final class Mutants {
    private static final String[] TESTS = {"GrainEdges", "RushEdges", "FanBlendEdges", "ListEdges"};
    private static final String[][] SWAPS = {{"<=", "<"}, {">=", ">"}, {"<", "<="}, {">", ">="}, {"==", "!="},
        {"!=", "=="}, {"&&", "||"}, {"||", "&&"}, {"++", "--"}, {"--", "++"}, {"+=", "-="}, {"-=", "+="}, {"+", "-"},
        {"-", "+"}, {"*", "/"}, {"/", "*"}, {"%", "*"}, {"&", "|"}, {"|", "&"}, {"min", "max"}, {"max", "min"},
        {"true", "false"}, {"false", "true"}, {"NONE", "0"}};
    private static final Pattern TOKEN = Pattern.compile("/\\*.*?\\*/|//[^\n]*|\"[^\"\n]*\"|'.'|\\w+|<<|>>>|>>|<=|>=|"
            + "==|!=|&&|\\|\\||\\+\\+|--|\\+=|-=|\\|=|&=|[-+*/%<>&|]", Pattern.DOTALL);

    private record Mutant(int line, String what, String source) {
    }

    private static final Map<String, Set<String>> KILLED_BY = new TreeMap<>();
    private static final Map<String, Integer> KILLS = new HashMap<>();
    private static final List<String> SURVIVORS = new ArrayList<>();
    private static int tried = 0;

    public static void main(String[] args) throws Exception {
        Path classes = Path.of(args[0]);
        String source = Files.readString(Path.of("src/main/java/GrainHouse.java"));
        List<Mutant> mutants = mutantsOf(source);
        if (!failing(new Mutant(0, "unchanged", source), classes, true).isEmpty()) {
            System.out.println("the tests fail without a change");
            System.exit(1);
        }
        ExecutorService pool = Executors.newFixedThreadPool(8);
        for (Mutant mutant : mutants) {
            pool.submit(() -> note(mutant, classes));
        }
        pool.shutdown();
        pool.awaitTermination(1, TimeUnit.HOURS);
        report(mutants.size());
        System.exit(0);
    }

    private static void note(Mutant mutant, Path classes) {
        Set<String> failing = failing(mutant, classes, false);
        synchronized (KILLED_BY) {
            if (failing == null) {
                return;
            }
            tried++;
            String name = "line " + mutant.line + ": " + mutant.what;
            if (failing.isEmpty()) {
                SURVIVORS.add(name);
            }
            for (String test : failing) {
                KILLED_BY.computeIfAbsent(test, key -> new TreeSet<>()).add(name);
            }
            KILLS.put(name, failing.size());
        }
    }

    private static void report(int made) {
        SURVIVORS.sort((a, b) -> Integer.compare(lineOf(a), lineOf(b)));
        SURVIVORS.forEach(name -> System.out.println("no test fails: " + name));
        KILLED_BY.forEach((test, by) -> System.out.println(by.stream().min(Comparator.comparing(KILLS::get))
                .map(name -> test + " and " + (KILLS.get(name) - 1) + " others fail: " + name)
                .orElse("no mutant fails: " + test)));
        System.out.println(made + " mutants, " + tried + " of them compile, " + SURVIVORS.size() + " fail no test");
    }

    private static int lineOf(String name) {
        return Integer.parseInt(name.substring(5, name.indexOf(':')));
    }

    private static List<Mutant> mutantsOf(String source) {
        List<Mutant> all = new ArrayList<>();
        Matcher m = TOKEN.matcher(source);
        while (m.find()) {
            for (String other : othersFor(m.group())) {
                add(all, source, m.start(), m.end(), other);
            }
        }
        Matcher statement = Pattern.compile("(?m)^ +([\\w.\\[\\]]+( [-+|&]?= |\\+\\+|--|\\().*;|break;)$").matcher(source);
        while (statement.find()) {
            add(all, source, statement.start(1), statement.end(1), ";");
        }
        return all;
    }

    private static List<String> othersFor(String token) {
        List<String> others = new ArrayList<>();
        for (String[] swap : SWAPS) {
            if (swap[0].equals(token)) {
                others.add(swap[1]);
            }
        }
        if (token.matches("\\d+L?")) {
            long value = Long.parseLong(token.replace("L", ""));
            others.add(Long.toString(value + 1));
            others.add(value == 0 ? "(-1)" : Long.toString(value - 1));
        }
        if (token.matches("'.'")) {
            others.add("(" + token + " + 1)");
            others.add("(" + token + " - 1)");
        }
        return others;
    }

    private static void add(List<Mutant> all, String source, int from, int to, String other) {
        int line = (int) source.substring(0, from).chars().filter(sign -> sign == '\n').count() + 1;
        int start = source.lastIndexOf('\n', from) + 1;
        int end = source.indexOf('\n', from);
        String changed = source.substring(start, from) + "[" + source.substring(from, to) + " -> " + other + "]"
                + source.substring(to, Math.max(end, to));
        all.add(new Mutant(line, changed.trim(), source.substring(0, from) + other + source.substring(to)));
    }

    /** The tests that fail, null if the mutant doesn't compile. */
    private static Set<String> failing(Mutant mutant, Path classes, boolean nameAll) {
        Map<String, byte[]> compiled = compile(mutant.source);
        if (compiled == null) {
            return null;
        }
        Set<String> failing = new TreeSet<>();
        String[] running = {""};
        Thread thread = new Thread(() -> runAll(new Loader(compiled, classes), failing, running, nameAll));
        thread.setDaemon(true);
        thread.start();
        try {
            thread.join(20000);
        } catch (InterruptedException stopped) {
            return failing;
        }
        synchronized (failing) {
            if (thread.isAlive()) {
                failing.add(running[0]);
            }
            return new TreeSet<>(failing);
        }
    }

    private static void runAll(Loader loader, Set<String> failing, String[] running, boolean nameAll) {
        try {
            Class<?> edges = loader.loadClass("Edges");
            Method testsOf = edges.getDeclaredMethod("testsOf", Class.class);
            Method run = edges.getDeclaredMethod("run", Method.class);
            testsOf.setAccessible(true);
            run.setAccessible(true);
            for (String name : TESTS) {
                for (Object test : (List<?>) testsOf.invoke(null, loader.loadClass(name))) {
                    running[0] = name + "." + ((Method) test).getName();
                    if (nameAll) {
                        synchronized (KILLED_BY) {
                            KILLED_BY.put(running[0], new TreeSet<>());
                        }
                    }
                    if (!((List<?>) run.invoke(null, test)).isEmpty()) {
                        synchronized (failing) {
                            failing.add(running[0]);
                        }
                    }
                }
            }
        } catch (ReflectiveOperationException broken) {
            throw new IllegalStateException(broken);
        }
    }

    private static Map<String, byte[]> compile(String source) {
        JavaCompiler javac = ToolProvider.getSystemJavaCompiler();
        Map<String, ByteArrayOutputStream> outs = new HashMap<>();
        JavaFileManager files = new ForwardingJavaFileManager<>(javac.getStandardFileManager(null, null, null)) {
            @Override
            public JavaFileObject getJavaFileForOutput(Location place, String name, JavaFileObject.Kind kind,
                    FileObject from) {
                return new SimpleJavaFileObject(URI.create("mem:///" + name + ".class"), kind) {
                    @Override
                    public OutputStream openOutputStream() {
                        outs.put(name, new ByteArrayOutputStream());
                        return outs.get(name);
                    }
                };
            }
        };
        JavaFileObject unit = new SimpleJavaFileObject(URI.create("mem:///GrainHouse.java"),
                JavaFileObject.Kind.SOURCE) {
            @Override
            public CharSequence getCharContent(boolean ignore) {
                return source;
            }
        };
        boolean good = javac.getTask(null, files, problem -> { }, List.of("--release", "17"), null, List.of(unit))
                .call();
        if (!good) {
            return null;
        }
        Map<String, byte[]> compiled = new HashMap<>();
        outs.forEach((name, out) -> compiled.put(name, out.toByteArray()));
        return compiled;
    }

    /** A world of its own for each mutant: the mutant, and the tests anew. */
    private static final class Loader extends ClassLoader {
        private final Map<String, byte[]> mutant;
        private final Path classes;

        Loader(Map<String, byte[]> mutant, Path classes) {
            super(ClassLoader.getPlatformClassLoader());
            this.mutant = mutant;
            this.classes = classes;
        }

        @Override
        protected Class<?> findClass(String name) throws ClassNotFoundException {
            try {
                byte[] code = mutant.containsKey(name) ? mutant.get(name)
                        : Files.readAllBytes(classes.resolve(name + ".class"));
                return defineClass(name, code, 0, code.length);
            } catch (IOException missing) {
                throw new ClassNotFoundException(name, missing);
            }
        }
    }
}
