import java.io.ByteArrayOutputStream;
import java.io.IOException;
import java.io.PrintStream;
import java.nio.file.Files;
import java.nio.file.Path;
import java.util.ArrayList;
import java.util.List;
import java.util.regex.Matcher;
import java.util.regex.Pattern;
import javax.tools.ToolProvider;

/** The program in README.md compiles, and each line of it prints what stands behind the line. */
public final class ReadmeTest {
    private static final Pattern PRINTING = Pattern.compile("System\\.out\\.println\\((.*)\\);\\s+// (\\S+).*");

    public static void main(String[] args) throws IOException, ReflectiveOperationException {
        String readme = Files.readString(Path.of("README.md"));
        int start = readme.indexOf("```java\n") + 8;
        String program = readme.substring(start, readme.indexOf("```", start));
        List<String> calls = new ArrayList<>();
        List<String> due = new ArrayList<>();
        program.lines().map(line -> PRINTING.matcher(line.strip())).filter(Matcher::matches).forEach(line -> {
            calls.add(line.group(1));
            due.add(line.group(2));
        });
        List<String> printed = run(program);
        Check.due("lines printed", printed.size(), due.size());
        for (int k = 0; k < due.size() && k < printed.size(); k++) {
            Check.due(calls.get(k) + " printed " + printed.get(k) + ", README.md has " + due.get(k),
                    printed.get(k).equals(due.get(k)), true);
        }
        everyCallIsShown(readme);
        Check.finish();
    }

    /** It is made where the compiled class stands, so that the two see each other. */
    private static List<String> run(String program) throws IOException, ReflectiveOperationException {
        Path made = Path.of(System.getProperty("java.class.path"));
        Path source = Files.writeString(made.resolve("Example.java"), program);
        int failed = ToolProvider.getSystemJavaCompiler().run(null, null, null, "--release", "17", "-implicit:none",
                "-cp", made.toString(), "-d", made.toString(), source.toString());
        Check.due("javac of the program", failed, 0);
        PrintStream before = System.out;
        ByteArrayOutputStream printed = new ByteArrayOutputStream();
        System.setOut(new PrintStream(printed, true));
        try {
            Class.forName("Example").getMethod("main", String[].class).invoke(null, (Object) new String[0]);
        } finally {
            System.setOut(before);
        }
        return printed.toString().lines().toList();
    }

    /** In the program and in the table of calls. */
    private static void everyCallIsShown(String readme) {
        for (var method : TariffDesk.class.getMethods()) {
            if (method.getDeclaringClass() == TariffDesk.class) {
                Check.due("desk." + method.getName() + " in README.md", readme.contains("desk." + method.getName() + "("), true);
                Check.due(method.getName() + " in the table", readme.contains("`" + method.getName() + "("), true);
            }
        }
    }
}
