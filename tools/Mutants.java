import java.io.BufferedReader;
import java.io.ByteArrayOutputStream;
import java.io.IOException;
import java.io.OutputStream;
import java.io.PrintStream;
import java.io.StringWriter;
import java.net.URI;
import java.nio.file.Files;
import java.nio.file.Path;
import java.util.ArrayList;
import java.util.HashMap;
import java.util.List;
import java.util.Map;
import java.util.regex.Matcher;
import java.util.regex.Pattern;
import java.util.stream.Stream;
import javax.tools.FileObject;
import javax.tools.ForwardingJavaFileManager;
import javax.tools.JavaCompiler;
import javax.tools.JavaFileManager;
import javax.tools.JavaFileObject;
import javax.tools.SimpleJavaFileObject;
import javax.tools.StandardJavaFileManager;
import javax.tools.ToolProvider;

/**
 * Breaks the class in one place at a time and tells the breaks that no test sees: java tools/Mutants.java TEST ...
 * Not a test itself, as a break may change no answer (a bound that can't be reached): those it tells are to be read.
 * It takes some five minutes with eight processors and the tests that it runs unless others are told.
 */
public final class Mutants {
    private static final Path CLASS = Path.of("src/main/java/ThirdAlike.java"), TESTS = Path.of("src/test/java");
    private static final String EDGES = "EdgeHousesTest,EdgeTermsTest,EdgeTapesTest,EdgeMovesTest,UnchangedTest,RareTest";
    private static final int WORKERS = Math.max(1, Runtime.getRuntime().availableProcessors());
    private static final int LONGEST_SECONDS = 60, ENDLESS = 3;
    private static final String[][] SWAPS = {
        {"<", "<=", ">="}, {"<=", "<", ">"}, {">", ">=", "<="}, {">=", ">", "<"}, {"==", "!="}, {"!=", "=="}, {"&&", "||"},
        {"||", "&&"}, {"+", "-"}, {"-", "+"}, {"*", "+"}, {"/", "*"}, {"%", "/"}, {"+=", "-="}, {"*=", "+="}, {"!", ""}, {"~", ""},
        {"&", "|"}, {"|", "&"}, {"^", "|"}, {"<<", ">>"}, {">>", "<<"}, {"|=", "&="}, {"^=", "|="}, {"&=", "|="}};

    private record Break(int from, int to, String with) { }

    public static void main(String[] args) throws Exception {
        if (args.length > 0 && args[0].equals("worker")) {
            work(Path.of(args[1]), Integer.parseInt(args[2]), args[3].split(","));
            return;
        }
        String tests = args.length > 0 ? String.join(",", args) : EDGES;
        Path classes = Files.createTempDirectory("mutants");
        compileTests(classes);
        List<Thread> supervisors = new ArrayList<>();
        for (int i = 0; i < WORKERS; i++) {
            int first = i;
            supervisors.add(new Thread(() -> supervise(classes, first, tests)));
            supervisors.get(i).start();
        }
        for (Thread one : supervisors) {
            one.join();
        }
        System.out.println(breaks(Files.readString(CLASS)).size() + " breaks were tried");
    }

    private static void compileTests(Path classes) throws IOException {
        List<String> names = new ArrayList<>(List.of("-d", classes.toString(), CLASS.toString()));
        try (Stream<Path> files = Files.list(TESTS)) {
            files.forEach(file -> names.add(file.toString()));
        }
        if (ToolProvider.getSystemJavaCompiler().run(null, null, null, names.toArray(new String[0])) != 0) {
            throw new IOException("the tests do not compile");
        }
    }

    /** A worker that meets an endless break ends itself; the next one goes on behind that break. */
    private static void supervise(Path classes, int first, String tests) {
        try {
            int next = first;
            while (next >= 0) {
                Process worker = new ProcessBuilder("java", "-Xss1m", "tools/Mutants.java", "worker", classes.toString(), "" + next, tests)
                    .redirectError(ProcessBuilder.Redirect.DISCARD).start();
                next = listen(worker, next);
            }
        } catch (IOException | InterruptedException e) {
            System.out.println("a worker was lost: " + e);
        }
    }

    private static int listen(Process worker, int first) throws IOException, InterruptedException {
        int last = first - WORKERS;
        try (BufferedReader said = worker.inputReader()) {
            for (String line = said.readLine(); line != null; line = said.readLine()) {
                if (line.startsWith("at ")) {
                    last = Integer.parseInt(line.substring(3));
                } else {
                    System.out.println(line);
                }
            }
        }
        return worker.waitFor() == ENDLESS ? last + WORKERS : -1;
    }

    // ---- the breaks

    private static List<Break> breaks(String source) {
        String code = blank(source, "(?s)/\\*.*?\\*/|//[^\\n]*|\"[^\"\\n]*\"|'[^']'");
        List<Break> all = new ArrayList<>();
        Matcher sign = Pattern.compile("<<|>>|\\+\\+|--|[-+*^|&<>=!]=|&&|\\|\\||[-<>+*/%&|^!~]").matcher(code);
        while (sign.find()) {
            for (String[] swap : SWAPS) {
                for (int i = 1; i < swap.length && swap[0].equals(sign.group()); i++) {
                    all.add(new Break(sign.start(), sign.end(), swap[i]));
                }
            }
        }
        Matcher number = Pattern.compile("\\b\\d+\\b").matcher(code);
        while (number.find()) {
            int n = Integer.parseInt(number.group());
            all.add(new Break(number.start(), number.end(), "" + (n + 1)));
            all.add(new Break(number.start(), number.end(), n > 0 ? "" + (n - 1) : "(-1)"));
        }
        Matcher statement = Pattern.compile("(?m)^ ++(?!return|break|continue|private|final|case|default|}|\\w+ \\w+ =)([^\\n{}]*;)$").matcher(code);
        while (statement.find()) {
            all.add(new Break(statement.start(1), statement.end(1), ";"));
        }
        Matcher condition = Pattern.compile("if \\(([^\\n]*)\\) \\{\\n").matcher(code);
        while (condition.find()) {
            all.add(new Break(condition.start(1), condition.end(1), "false"));
            all.add(new Break(condition.start(1), condition.end(1), "true"));
        }
        return all;
    }

    private static String blank(String source, String what) {
        Matcher m = Pattern.compile(what).matcher(source);
        StringBuilder code = new StringBuilder(source);
        while (m.find()) {
            for (int i = m.start(); i < m.end(); i++) {
                code.setCharAt(i, source.charAt(i) == '\n' ? '\n' : '_');
            }
        }
        return code.toString();
    }

    // ---- a worker

    private static void work(Path classes, int first, String[] tests) throws Exception {
        String source = Files.readString(CLASS);
        List<Break> all = breaks(source);
        PrintStream out = System.out;
        for (int k = first; k < all.size(); k += WORKERS) {
            out.println("at " + k);
            Break one = all.get(k);
            Map<String, byte[]> broken = compile(source.substring(0, one.from) + one.with + source.substring(one.to));
            if (broken != null && passes(broken, classes, tests)) {
                long line = source.substring(0, one.from).lines().count();
                out.println("line " + line + ": '" + source.substring(one.from, one.to) + "' as '" + one.with + "' is not seen: "
                    + source.lines().skip(line - 1).findFirst().orElse("").trim());
            }
        }
    }

    private static boolean passes(Map<String, byte[]> broken, Path classes, String[] tests) throws InterruptedException {
        for (String test : tests) {
            boolean[] passed = {false};
            Thread run = new Thread(() -> passed[0] = passes(broken, classes, test));
            run.setDaemon(true);
            System.setOut(new PrintStream(OutputStream.nullOutputStream()));
            run.start();
            run.join(1000L * LONGEST_SECONDS);
            if (run.isAlive()) {
                Runtime.getRuntime().halt(ENDLESS);
            }
            if (!passed[0]) {
                return false;
            }
        }
        return true;
    }

    /** Each test begins anew, with classes of its own: what it counts is static. */
    private static boolean passes(Map<String, byte[]> broken, Path classes, String test) {
        ClassLoader loader = new ClassLoader(ClassLoader.getPlatformClassLoader()) {
            @Override
            protected Class<?> findClass(String name) throws ClassNotFoundException {
                try {
                    byte[] bytes = name.startsWith("ThirdAlike") ? broken.get(name) : Files.readAllBytes(classes.resolve(name + ".class"));
                    return defineClass(name, bytes, 0, bytes.length);
                } catch (IOException e) {
                    throw new ClassNotFoundException(name, e);
                }
            }
        };
        try {
            loader.loadClass(test).getMethod("main", String[].class).invoke(null, (Object) new String[0]);
            return true;
        } catch (ReflectiveOperationException e) {
            return false;
        }
    }

    /** Null, if it does not compile. */
    private static Map<String, byte[]> compile(String source) throws IOException {
        Map<String, ByteArrayOutputStream> written = new HashMap<>();
        JavaCompiler compiler = ToolProvider.getSystemJavaCompiler();
        JavaFileObject file = new SimpleJavaFileObject(URI.create("string:///ThirdAlike.java"), JavaFileObject.Kind.SOURCE) {
            @Override
            public CharSequence getCharContent(boolean ignored) {
                return source;
            }
        };
        try (StandardJavaFileManager standard = compiler.getStandardFileManager(null, null, null)) {
            JavaFileManager files = new ForwardingJavaFileManager<JavaFileManager>(standard) {
                @Override
                public JavaFileObject getJavaFileForOutput(Location at, String name, JavaFileObject.Kind kind, FileObject beside) {
                    written.put(name, new ByteArrayOutputStream());
                    return new SimpleJavaFileObject(URI.create("bytes:///" + name), kind) {
                        @Override
                        public OutputStream openOutputStream() {
                            return written.get(name);
                        }
                    };
                }
            };
            if (!compiler.getTask(new StringWriter(), files, null, List.of(), null, List.of(file)).call()) {
                return null;
            }
        }
        Map<String, byte[]> classes = new HashMap<>();
        written.forEach((name, bytes) -> classes.put(name, bytes.toByteArray()));
        return classes;
    }
}
