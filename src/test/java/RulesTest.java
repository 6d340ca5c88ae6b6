import java.io.IOException;
import java.lang.reflect.Field;
import java.lang.reflect.Method;
import java.lang.reflect.Modifier;
import java.nio.file.Files;
import java.nio.file.Path;
import java.util.ArrayList;
import java.util.List;
import java.util.Set;
import java.util.TreeSet;
import java.util.regex.Matcher;
import java.util.regex.Pattern;

/** The rules of LANGUAGE.md, as far as they can be seen from the text of the class and from its members. */
public final class RulesTest {
    private static final Path SOURCE = Path.of("src/main/java/TariffDesk.java");
    private static final Set<String> IMPORTS = Set.of("java.util.NoSuchElementException", "java.util.ArrayList",
            "java.util.List", "java.util.Arrays", "java.util.Iterator");
    private static final Set<String> CONSTANTS = Set.of("int", "long", "boolean", "char", "java.lang.String",
            "[I", "[J", "[C", "[B");
    private static final String[] REFUSED = {"package", "protected", "finally", "synchronized", "assert", "->", "::",
        "Exact(", "getMessage", "hashCode", "Thread", "Random", "nanoTime", "currentTimeMillis", "getenv", "getProperty",
        "volatile", "native", "import static", "static {", "while (true)", "for (;;)"};
    /** None of these is ever thrown by the machine itself. */
    private static final Set<String> CAUGHT = Set.of("NoSuchElementException", "IllegalStateException",
            "IllegalArgumentException", "UnsupportedOperationException");

    public static void main(String[] args) throws IOException {
        String text = Files.readString(SOURCE);
        String code = withoutComments(text);
        words(code);
        exceptions(code);
        methodLengths(text);
        List<Class<?>> classes = new ArrayList<>(List.of(TariffDesk.class.getDeclaredClasses()));
        classes.add(TariffDesk.class);
        Check.due("at most twelve classes", classes.size() <= 12, true);
        for (Class<?> one : classes) {
            fields(one);
            methods(one);
        }
        Check.finish();
    }

    private static String withoutComments(String text) {
        return text.replaceAll("(?s)/\\*.*?\\*/", " ").replaceAll("//[^\n]*", " ");
    }

    private static void words(String code) {
        Matcher imports = Pattern.compile("import ([\\w.*]+);").matcher(code);
        while (imports.find()) {
            Check.due("import " + imports.group(1), IMPORTS.contains(imports.group(1)), true);
        }
        for (String word : REFUSED) {
            boolean isWord = Character.isLetter(word.charAt(0)) && Character.isLetter(word.charAt(word.length() - 1));
            Pattern sought = Pattern.compile(isWord ? "\\b" + word + "\\b" : Pattern.quote(word));
            Check.due("no " + word, sought.matcher(code).find(), false);
        }
        Check.due("signs 1 to 127 alone", code.chars().allMatch(sign -> sign >= 1 && sign <= 127), true);
    }

    /** The document names one exception alone. */
    private static void exceptions(String code) {
        Matcher thrown = Pattern.compile("\\bthrow\\b([^;]*);").matcher(code);
        while (thrown.find()) {
            Check.due("throw" + thrown.group(1), thrown.group(1).equals(" new NoSuchElementException()"), true);
        }
        Matcher caught = Pattern.compile("\\bcatch \\((\\w+)").matcher(code);
        while (caught.find()) {
            Check.due("catch of " + caught.group(1), CAUGHT.contains(caught.group(1)), true);
        }
    }

    /** A method begins with a line that ends in a brace, and ends with a brace that stands as far in. */
    private static void methodLengths(String text) {
        List<String> lines = text.lines().toList();
        Pattern head = Pattern.compile("( +)(public|private)[^=]*\\).*\\{");
        int seen = 0;
        for (int at = 0; at < lines.size(); at++) {
            Matcher method = head.matcher(lines.get(at));
            if (method.matches()) {
                int end = lines.subList(at, lines.size()).indexOf(method.group(1) + "}");
                Check.due("method at line " + (at + 1) + " has an end", end > 0, true);
                Check.due("method at line " + (at + 1) + " has " + end + " lines", end <= 60, true);
                seen++;
            }
        }
        Check.due("methods were seen", seen > 19, true);
    }

    private static void fields(Class<?> one) {
        int own = 0;
        for (Field field : one.getDeclaredFields()) {
            boolean isStatic = Modifier.isStatic(field.getModifiers());
            own += isStatic ? 0 : 1;
            if (isStatic) {
                Check.due("final " + field, Modifier.isFinal(field.getModifiers()), true);
                Check.due("constant " + field, CONSTANTS.contains(field.getType().getName()), true);
            }
        }
        Check.due("at most twenty fields in " + one, own <= 20, true);
    }

    private static void methods(Class<?> one) {
        TreeSet<String> face = new TreeSet<>();
        for (Method method : TariffDesk.class.getMethods()) {
            face.add(method.getName());
        }
        for (Method method : one.getDeclaredMethods()) {
            Check.due("at most seven parameters " + method, method.getParameterCount() <= 7, true);
            boolean isPrivate = Modifier.isPrivate(method.getModifiers());
            Check.due("no name of the face " + method, isPrivate && face.contains(method.getName()), false);
        }
    }
}
