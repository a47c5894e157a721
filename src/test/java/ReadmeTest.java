import java.io.File;
import java.io.IOException;
import java.net.URL;
import java.net.URLClassLoader;
import java.nio.file.Files;
import java.nio.file.Path;
import java.util.ArrayList;
import java.util.List;
import java.util.regex.Matcher;
import java.util.regex.Pattern;

/** README.md's lines of Java, run one behind the other, answer as their comments tell. */
public final class ReadmeTest {
    private static final String[] FACE = {
        "town", "neighbours", "person", "of", "put", "feed", "street", "told", "move", "run", "rest", "again", "mixed", "few",
        "edge", "begins", "holds", "before", "odds", "quarter", "book", "looked", "judge", "image", "undo", "act", "trace",
        "taken", "count", "tape", "item", "read", "shift"};

    /** A call alone on a line, and behind it the number that it answers. */
    private static final Pattern TOLD = Pattern.compile("(x\\.\\w+\\(.*?\\)); *// (-?\\d+)(:.*)?");

    private final List<String> calls = new ArrayList<>();
    private final List<Long> due = new ArrayList<>();

    public static void main(String[] args) throws IOException, InterruptedException, ReflectiveOperationException {
        String page = Files.readString(Path.of("README.md"));
        for (String name : FACE) {
            Check.holds("README.md shows " + name + "(..)", Pattern.compile("\\b" + name + "\\(").matcher(page).find());
        }
        Path dir = Files.createTempDirectory("readme");
        try {
            new ReadmeTest().look(dir);
        } finally {
            for (File file : dir.toFile().listFiles()) {
                file.delete();
            }
            dir.toFile().delete();
        }
        Check.end();
    }

    private void look(Path dir) throws IOException, InterruptedException, ReflectiveOperationException {
        Path source = dir.resolve("ReadmeRun.java");
        Files.write(source, program(linesOfJava()));
        int result = new ProcessBuilder("javac", "-d", dir.toString(), "-cp", System.getProperty("java.class.path"), source.toString())
            .inheritIO().start().waitFor();
        Check.due("the compiler, of README.md's lines,", result, 0);
        if (result == 0) {
            try (URLClassLoader loader = new URLClassLoader(new URL[] {dir.toUri().toURL()})) {
                long[] answers = (long[]) loader.loadClass("ReadmeRun").getMethod("answers").invoke(null);
                Check.due("the count of README.md's answers", answers.length, due.size());
                for (int i = 0; i < answers.length && i < due.size(); i++) {
                    Check.due("README.md: " + calls.get(i), answers[i], due.get(i));
                }
            }
        }
    }

    private static List<String> linesOfJava() throws IOException {
        List<String> lines = new ArrayList<>();
        boolean isJava = false;
        for (String line : Files.readAllLines(Path.of("README.md"))) {
            if (line.startsWith("```")) {
                isJava = line.equals("```java");
            } else if (isJava) {
                lines.add(line);
            }
        }
        return lines;
    }

    private List<String> program(List<String> lines) {
        List<String> program = new ArrayList<>();
        program.add("public final class ReadmeRun { public static long[] answers() {");
        program.add("java.util.ArrayList<Long> got = new java.util.ArrayList<>();");
        for (String line : lines) {
            Matcher call = TOLD.matcher(line);
            if (call.matches()) {
                calls.add(call.group(1));
                due.add(Long.valueOf(call.group(2)));
                program.add("got.add((long) " + call.group(1) + ");");
            } else {
                Check.holds("README.md tells a number behind: " + line, !line.contains("//"));
                program.add(line);
            }
        }
        program.add("long[] row = new long[got.size()];");
        program.add("for (int i = 0; i < row.length; i++) { row[i] = got.get(i); }");
        program.add("return row; } }");
        return program;
    }
}
