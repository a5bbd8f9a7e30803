import java.io.IOException;
import java.lang.reflect.InvocationTargetException;
import java.net.URL;
import java.net.URLClassLoader;
import java.nio.file.Files;
import java.nio.file.Path;
import java.util.ArrayList;
import java.util.Arrays;
import java.util.Comparator;
import java.util.List;
import java.util.Set;
import java.util.TreeSet;
import java.util.regex.Matcher;
import java.util.regex.Pattern;
import java.util.stream.Collectors;
import java.util.stream.Stream;
import javax.tools.ToolProvider;

/** Whether README.md tells the truth: the calls of its Java text answer what stands behind them. */
public final class ReadmeTest {
    private static final Check CHECK = new Check("ReadmeTest");
    private static final Pattern ANSWERED =
        Pattern.compile("((?:x\\.\\w+|plan)\\(.*\\)); +// (-?[0-9.]+|\"[^\"]*\")(?:[:,].*)?");

    public static void main(String[] args) throws IOException, ReflectiveOperationException {
        List<String> lines = Files.readAllLines(Path.of("README.md"));
        namesAllCalls(String.join("\n", lines));
        List<String> calls = new ArrayList<>();
        String source = source(lines, calls);
        CHECK.that("README.md has calls with answers", calls.size() > 20);
        Path folder = Files.createTempDirectory("readme");
        try {
            run(folder, source, calls);
        } finally {
            remove(folder);
        }
        CHECK.end();
    }

    /** Each call that the table of calls names is one of the class, and each one of the class is named. */
    private static void namesAllCalls(String text) {
        String table = text.substring(text.indexOf("### Which calls there are"),
            text.indexOf("## How to run its tests"));
        Set<String> named = new TreeSet<>();
        Matcher m = Pattern.compile("`(\\w+)`").matcher(table);
        while (m.find()) {
            CHECK.that(m.group(1) + " is named twice", named.add(m.group(1)));
        }
        Set<String> there = Arrays.stream(SeatSwap.class.getMethods())
            .filter(method -> method.getDeclaringClass() == SeatSwap.class)
            .map(method -> method.getName()).collect(Collectors.toCollection(TreeSet::new));
        CHECK.dueText("calls", named.toString(), there.toString());
    }

    /** A class of the Java texts: those with methods as they stand, the others as one method that keeps the answers. */
    private static String source(List<String> lines, List<String> calls) {
        StringBuilder members = new StringBuilder();
        StringBuilder statements = new StringBuilder();
        boolean inside = false;
        boolean method = false;
        for (String line : lines) {
            if (line.startsWith("```")) {
                inside = line.equals("```java");
                method = false;
            } else if (inside) {
                method = method || line.startsWith("static ");
                (method ? members : statements).append(method ? line : asked(line, calls)).append('\n');
            }
        }
        return "public class Readme {\n" + members + "public static java.util.List<Object> answers() {\n"
            + "java.util.List<Object> all = new java.util.ArrayList<>();\n" + statements + "return all;\n}\n}\n";
    }

    private static String asked(String line, List<String> calls) {
        Matcher m = ANSWERED.matcher(line);
        if (!m.matches()) {
            CHECK.that("no answer stands behind " + line, !line.startsWith("x."));
            return line;
        }
        String due = m.group(2).replace("\"", "").replace("\\n", "\n");
        calls.add(m.group(1) + " -> " + due);
        return "all.add(" + m.group(1) + ");";
    }

    private static void run(Path folder, String source, List<String> calls)
            throws IOException, ReflectiveOperationException {
        Path file = Files.writeString(folder.resolve("Readme.java"), source);
        int failed = ToolProvider.getSystemJavaCompiler().run(null, null, null, "-cp",
            System.getProperty("java.class.path"), "-d", folder.toString(), file.toString());
        CHECK.due("the compiler", failed, 0);
        if (failed != 0) {
            return;
        }
        try (URLClassLoader loader = new URLClassLoader(new URL[] {folder.toUri().toURL()})) {
            List<?> answers = (List<?>) loader.loadClass("Readme").getMethod("answers").invoke(null);
            CHECK.due("how many calls", answers.size(), calls.size());
            for (int i = 0; i < answers.size(); i++) {
                String call = calls.get(i);
                CHECK.dueText(call, answers.get(i).toString(), call.substring(call.indexOf(" -> ") + 4));
            }
        } catch (InvocationTargetException e) {
            CHECK.that("the README's calls threw " + e.getCause(), false);
        }
    }

    private static void remove(Path folder) throws IOException {
        try (Stream<Path> files = Files.walk(folder)) {
            for (Path file : files.sorted(Comparator.reverseOrder()).collect(Collectors.toList())) {
                Files.delete(file);
            }
        }
    }
}
