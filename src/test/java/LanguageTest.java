import java.io.IOException;
import java.lang.reflect.Constructor;
import java.lang.reflect.Field;
import java.lang.reflect.Method;
import java.lang.reflect.Modifier;
import java.nio.file.Files;
import java.nio.file.Path;
import java.util.ArrayList;
import java.util.List;
import java.util.TreeSet;
import java.util.regex.Matcher;
import java.util.regex.Pattern;

/** The face of the document, and those rules of ../shared/LANGUAGE.md that can be read off the file and its classes. */
public final class LanguageTest {
    private static final String[] FACE = {
        "int town(int,int)", "int neighbours(int)", "int person(int,int,int,int)", "int of(int,int)", "int put(int,int)",
        "int feed(int)", "int street()", "int told(int)", "int move()", "int run(int,int)", "int rest()", "int again()",
        "int mixed(int)", "int few()", "int edge()", "int begins()", "int holds()", "int before(int)", "long odds(int,int)",
        "long quarter(int,int,int)", "int book(int)", "int looked()", "int judge(int,int)", "int image()", "int undo()",
        "int act(int,int,int)", "int trace(int)", "int taken(int,int)", "int count(int)", "int tape(int,int,int)",
        "int item(int,int,long)", "long read(int,int)", "int shift(int,int,int,int,int)"};
    private static final String[] REFUSED = {
        "throw", "throws", "try", "catch", "finally", "synchronized", "assert", "package", "native", "volatile", "transient",
        "strictfp", "protected"};
    private static final String LIBRARY =
        "(?:Math|Integer|Long)\\.\\w+(?<!Exact)|Arrays\\.(?:copyOf|copyOfRange|fill)|System\\.arraycopy|List\\.of";

    public static void main(String[] args) throws IOException {
        face();
        constants();
        classes();
        words();
        lengths();
        Check.end();
    }

    private static String written(Method m) {
        List<String> types = new ArrayList<>();
        for (Class<?> type : m.getParameterTypes()) {
            types.add(type.getName());
        }
        return m.getReturnType().getName() + " " + m.getName() + "(" + String.join(",", types) + ")";
    }

    private static void face() {
        TreeSet<String> seen = new TreeSet<>();
        TreeSet<String> names = new TreeSet<>();
        for (Method m : ThirdAlike.class.getDeclaredMethods()) {
            if (Modifier.isPublic(m.getModifiers())) {
                seen.add(written(m));
                names.add(m.getName());
                Check.holds(m + " belongs to an object", !Modifier.isStatic(m.getModifiers()));
            }
        }
        Check.holds("the face: " + seen, seen.equals(new TreeSet<>(List.of(FACE))));
        for (Method m : ThirdAlike.class.getDeclaredMethods()) {
            boolean isPrivate = Modifier.isPrivate(m.getModifiers());
            Check.holds(m + " is public or private", isPrivate || Modifier.isPublic(m.getModifiers()));
            Check.holds(m + " bears no public name", !isPrivate || !names.contains(m.getName()));
        }
        Constructor<?>[] all = ThirdAlike.class.getDeclaredConstructors();
        Check.due("constructors", all.length, 1);
        Check.holds("the constructor is public, without arguments", Modifier.isPublic(all[0].getModifiers()) && all[0].getParameterCount() == 0);
        Check.holds("the class is public and final", Modifier.isPublic(ThirdAlike.class.getModifiers()) && Modifier.isFinal(ThirdAlike.class.getModifiers()));
    }

    private static void constants() {
        Check.due("NONE", ThirdAlike.NONE, -1);
        Check.due("BAD", ThirdAlike.BAD, -2);
        Check.due("STATE", ThirdAlike.STATE, -3);
        Check.due("FULL", ThirdAlike.FULL, -4);
        Check.due("NO", ThirdAlike.NO, Long.MIN_VALUE);
        int publics = 0;
        for (Field f : ThirdAlike.class.getDeclaredFields()) {
            boolean isPublic = Modifier.isPublic(f.getModifiers());
            publics += isPublic ? 1 : 0;
            Check.holds(f + " is public or private", isPublic || Modifier.isPrivate(f.getModifiers()));
        }
        Check.due("public constants", publics, 5);
    }

    private static void classes() {
        Class<?>[] inside = ThirdAlike.class.getDeclaredClasses();
        Check.holds("some twelve classes", inside.length < 12);
        fieldsAndMethods(ThirdAlike.class);
        for (Class<?> c : inside) {
            int how = c.getModifiers();
            Check.holds(c + " is static, not public", Modifier.isStatic(how) && !Modifier.isPublic(how) && !Modifier.isProtected(how));
            Check.due("classes inside " + c, c.getDeclaredClasses().length, 0);
            fieldsAndMethods(c);
        }
    }

    private static void fieldsAndMethods(Class<?> c) {
        int fields = 0;
        for (Field f : c.getDeclaredFields()) {
            boolean isStatic = Modifier.isStatic(f.getModifiers());
            fields += isStatic ? 0 : 1;
            Check.holds(f + " is final if it is static", !isStatic || Modifier.isFinal(f.getModifiers()));
        }
        Check.holds("some twenty fields in " + c, fields <= 20);
        for (Method m : c.getDeclaredMethods()) {
            Check.holds(m + " takes at most seven parameters", m.getParameterCount() <= 7);
            Check.holds(m + " was written", !m.isSynthetic());
        }
    }

    private static String source() throws IOException {
        return Files.readString(Path.of("src/main/java/ThirdAlike.java"));
    }

    private static String withoutComments() throws IOException {
        return source().replaceAll("(?s)/\\*.*?\\*/", "").replaceAll("//[^\n]*", "").replaceAll("\"[^\"\n]*\"", "\"\"");
    }

    private static void words() throws IOException {
        String code = withoutComments();
        for (String word : REFUSED) {
            Check.holds("no " + word, !Pattern.compile("\\b" + word + "\\b").matcher(code).find());
        }
        Check.holds("no lambda, no method reference", !code.contains("->") && !code.contains("::"));
        Check.holds("no text joined by +", !Pattern.compile("\"\\s*\\+|\\+\\s*\"").matcher(code).find());
        Check.holds("ASCII alone", source().chars().allMatch(c -> c == '\n' || c >= 32 && c < 127));
        TreeSet<String> others = new TreeSet<>();
        Matcher call = Pattern.compile("\\b(?:System|Math|StrictMath|Arrays|List|Integer|Long|String|Thread)\\.\\w+").matcher(code);
        while (call.find()) {
            others.add(call.group());
        }
        others.removeIf(name -> name.matches(LIBRARY));
        Check.holds("no other library: " + others, others.isEmpty());
        for (String line : code.split("\n")) {
            Check.holds("imports no more than lists: " + line,
                !line.startsWith("import ") || line.matches("import java\\.util\\.(?:ArrayList|List|Arrays|Iterator);"));
        }
    }

    /** A method begins with a line that is indented by 4 or 8 and ends with {, and ends with a brace below its beginning. */
    private static void lengths() throws IOException {
        String[] lines = source().split("\n");
        for (int i = 0; i < lines.length; i++) {
            Matcher head = Pattern.compile("( {8}| {4})(?! )[\\w\\[\\] ]+\\([^;]*\\) \\{").matcher(lines[i]);
            if (head.matches() && !Pattern.matches("(?:if|for|while|switch) .*", lines[i].trim())) {
                int end = i;
                while (end < lines.length && !lines[end].equals(head.group(1) + "}")) {
                    end++;
                }
                Check.holds("short: " + lines[i].trim(), end - i <= 60);
            }
        }
    }
}
