import java.io.IOException;
import java.lang.reflect.Field;
import java.lang.reflect.Method;
import java.lang.reflect.Modifier;
import java.nio.file.Files;
import java.nio.file.Path;
import java.util.ArrayDeque;
import java.util.Deque;
import java.util.Set;
import java.util.TreeSet;
import java.util.regex.Matcher;
import java.util.regex.Pattern;

/** The rules of LANGUAGE.md that can be seen from the text and from the classes. */
public final class LanguageTest {
    private static final Set<String> LIBRARY =
            Set.of("Math", "IndexOutOfBoundsException", "IllegalArgumentException");
    private static final String[] LEFT_OUT = {"import", "package", "try", "catch", "finally",
        "synchronized", "assert", "native", "volatile", "transient", "equals", "hashCode",
        "toString", "double", "float"};

    public static void main(String[] args) throws IOException {
        Path root = Path.of(args.length > 0 ? args[0] : ".");
        String text = Files.readString(root.resolve("src/main/java/TaskTrees.java"));
        Check.sentence("rule 3");
        Check.due("only characters 0 to 255", text.chars().filter(c -> c > 255).count(), 0);
        String code = bare(text);
        words(code);
        exceptions(code);
        methodLengths(code);
        classes();
        Check.end();
    }

    /** The text without its comments, and without what stands in its strings. */
    private static String bare(String text) {
        StringBuilder code = new StringBuilder();
        Pattern part = Pattern.compile("(?s)/\\*.*?\\*/|//[^\n]*|\"[^\"]*\"|.");
        Matcher m = part.matcher(text);
        while (m.find()) {
            String s = m.group();
            boolean comment = s.startsWith("/*") || s.startsWith("//");
            code.append(comment ? s.replaceAll("[^\n]", "") : s.startsWith("\"") ? "\"\"" : s);
        }
        return code.toString();
    }

    private static void words(String code) {
        Check.sentence("rules 2, 4 and 6");
        for (String word : LEFT_OUT) {
            Check.due("the word " + word, found(code, "\\b" + word + "\\b"), 0);
        }
        Check.due("no lambda", found(code, "->"), 0);
        Check.due("no method reference", found(code, "::"), 0);
        Check.due("no Exact", found(code, "Exact\\b"), 0);
        Set<String> known = new TreeSet<>(LIBRARY);
        known.add("TaskTrees");
        for (Class<?> c : TaskTrees.class.getDeclaredClasses()) {
            known.add(c.getSimpleName());
        }
        Matcher m = Pattern.compile("\\b[A-Z]\\w*[a-z]\\w*").matcher(code);
        while (m.find()) {
            if (!known.contains(m.group())) {
                Check.fault(m.group() + " is not in the library");
            }
        }
    }

    private static void exceptions(String code) {
        Check.sentence("rule 6");
        int plain = found(code, "throw new \\w+Exception\\(\"\"\\);");
        Check.due("throws of a new exception with a written text", plain, found(code, "throw\\b"));
    }

    private static int found(String code, String pattern) {
        Matcher m = Pattern.compile(pattern).matcher(code);
        int n = 0;
        while (m.find()) {
            n++;
        }
        return n;
    }

    private static void methodLengths(String code) {
        Check.sentence("rule 11");
        Deque<Integer> opened = new ArrayDeque<>();
        String[] lines = code.split("\n");
        for (int i = 0; i < lines.length; i++) {
            for (char c : lines[i].toCharArray()) {
                if (c == '{') {
                    opened.push(i);
                } else if (c == '}') {
                    int from = opened.pop();
                    boolean isClass = lines[from].contains(" class ");
                    if (!isClass && i - from > 60) {
                        Check.fault("more than 60 lines: " + lines[from].trim());
                    }
                }
            }
        }
        Check.due("all that is opened is closed", opened.size(), 0);
    }

    private static void classes() {
        Class<?>[] inner = TaskTrees.class.getDeclaredClasses();
        Check.due("some twelve classes", inner.length < 12 ? 1 : 0, 1);
        one(TaskTrees.class);
        for (Class<?> c : inner) {
            one(c);
            Check.due(c + " has no classes inside", c.getDeclaredClasses().length, 0);
        }
    }

    private static void one(Class<?> c) {
        int fields = 0;
        for (Field f : c.getDeclaredFields()) {
            boolean isStatic = Modifier.isStatic(f.getModifiers());
            fields += isStatic ? 0 : 1;
            Check.sentence("rule 5");
            Check.due(f + " is final", !isStatic || Modifier.isFinal(f.getModifiers()) ? 1 : 0, 1);
        }
        Check.sentence("rule 11");
        Check.due(c + ", some twenty fields", fields <= 20 ? 1 : 0, 1);
        for (Method m : c.getDeclaredMethods()) {
            Check.due(m + ", seven parameters", m.getParameterCount() <= 7 ? 1 : 0, 1);
        }
    }
}
