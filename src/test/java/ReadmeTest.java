import java.io.IOException;
import java.io.UncheckedIOException;
import java.net.URL;
import java.net.URLClassLoader;
import java.nio.charset.StandardCharsets;
import java.nio.file.Files;
import java.nio.file.Path;
import java.util.ArrayList;
import java.util.Comparator;
import java.util.List;
import java.util.TreeSet;
import java.util.regex.Matcher;
import java.util.regex.Pattern;
import java.util.stream.Stream;
import javax.tools.JavaCompiler;
import javax.tools.ToolProvider;

/** What README.md says: its examples compile and answer so, and its tables name each call with its errors. */
public final class ReadmeTest {
    private static final Path PLACE = Path.of("README.md");
    private static final Pattern ANSWERED = Pattern.compile(
        "( *)((?:int|long|double) ([a-z]+) = )?(office\\.[A-Za-z]+\\(.*\\)); *// ([-A-Za-z0-9_.]+)(?:, .*)?");
    private static final Pattern CALL_ROW = Pattern.compile("\\| `([A-Za-z]+)\\((.*)\\)` \\|.*\\| (.*) *\\|");
    private static final String CONSTANTS = "UNKNOWN|BAD_VALUE|FULL|NOT_POSSIBLE|NONE";

    private ReadmeTest() {
    }

    public static void main(String[] args) throws Exception {
        Checks.begin("the examples");
        runExamples();
        Checks.begin("the tables");
        dueCalls();
        dueErrors();
        dueConstants();
        Checks.end();
    }

    /** For the examples, which are loaded apart and so see public methods alone. */
    public static void due(String call, double got, double want) {
        Checks.dueNumber(call, got, want);
    }

    private static void runExamples() throws Exception {
        Path place = Files.createTempDirectory("readme");
        try {
            Path file = place.resolve("Examples.java");
            Files.writeString(file, examples());
            JavaCompiler compiler = ToolProvider.getSystemJavaCompiler();
            String[] arguments = {"-d", place.toString(), "-cp", System.getProperty("java.class.path"), file.toString()};
            int compiled = compiler == null ? -1 : compiler.run(null, System.out, System.out, arguments);
            Checks.due("compiling them", compiled, 0);
            if (compiled == 0) {
                try (URLClassLoader loader = new URLClassLoader(new URL[] {place.toUri().toURL()})) {
                    loader.loadClass("Examples").getMethod("run").invoke(null);
                }
            }
        } finally {
            remove(place);
        }
    }

    private static void remove(Path place) throws IOException {
        try (Stream<Path> files = Files.walk(place)) {
            files.sorted(Comparator.reverseOrder()).forEach(ReadmeTest::removeOne);
        }
    }

    private static void removeOne(Path file) {
        try {
            Files.delete(file);
        } catch (IOException e) {
            throw new UncheckedIOException(e);
        }
    }

    // A class whose method run() does what the blocks say, and looks at the answers in their comments.
    private static String examples() {
        StringBuilder source = new StringBuilder("public class Examples { public static void run() {\n");
        boolean inside = false;
        int answers = 0;
        for (String line : lines()) {
            Matcher answered = ANSWERED.matcher(line);
            if (line.startsWith("```")) {
                source.append(inside ? "}\n" : line.equals("```java") ? "{\n" : "");
                inside = line.equals("```java");
            } else if (inside && answered.matches()) {
                source.append(looking(answered));
                answers++;
            } else if (inside) {
                Checks.due("an answer in the comment of " + line, line.contains("//") ? 0 : 1, 1);
                source.append(line).append('\n');
            }
        }
        Checks.due("there are examples", answers > 0 ? 1 : 0, 1);
        return source.append("} }\n").toString();
    }

    private static String looking(Matcher line) {
        String call = line.group(4);
        String want = line.group(5).matches(CONSTANTS) ? "GlacierGuides." + line.group(5) : line.group(5);
        want = want.equals("NaN") ? "Double.NaN" : want;
        String text = "\"" + call.replace("\"", "'") + "\"";
        if (line.group(2) == null) {
            return "ReadmeTest.due(" + text + ", " + call + ", " + want + ");\n";
        }
        return line.group(2) + call + "; ReadmeTest.due(" + text + ", " + line.group(3) + ", " + want + ");\n";
    }

    // The calls in the tables, with the names that the document gives to what they take.
    private static void dueCalls() {
        TreeSet<String> told = new TreeSet<>();
        for (String line : lines()) {
            Matcher row = CALL_ROW.matcher(line);
            if (row.matches()) {
                told.add(row.group(1) + "(" + row.group(2) + ")");
            }
        }
        TreeSet<String> promised = new TreeSet<>();
        for (String line : Document.linesOf("The public face")) {
            Matcher method = Pattern.compile("    public [a-z]+ ([A-Za-z]+)\\((.*)\\);").matcher(line);
            if (method.matches()) {
                promised.add(method.group(1) + "(" + method.group(2).replaceAll("(int|long|char) ", "") + ")");
            }
        }
        if (Document.isThere()) {
            Checks.dueText("the calls", told.toString(), promised.toString());
        }
        Checks.due("there are calls", told.isEmpty() ? 0 : 1, 1);
    }

    // The errors of each call in the order of its @return line; what just tells has no order with NONE in it.
    private static void dueErrors() {
        for (String line : lines()) {
            Matcher row = CALL_ROW.matcher(line);
            if (row.matches() && Document.isThere()) {
                String promise = Document.textOf(Document.sectionOf(row.group(1)));
                int from = Math.max(promise.indexOf("Returns"), 0);
                Checks.dueText("the errors of " + row.group(1), constantsIn(row.group(3)).toString(),
                    constantsIn(promise.substring(from)).toString());
                boolean noNumber = promise.contains("a NaN");
                Checks.due("a NaN of " + row.group(1), row.group(3).contains("NaN") ? 1 : 0, noNumber ? 1 : 0);
            }
        }
    }

    private static List<String> constantsIn(String text) {
        List<String> found = new ArrayList<>();
        Matcher constant = Pattern.compile("\\b(" + CONSTANTS + ")\\b").matcher(text);
        while (constant.find()) {
            found.add(constant.group());
        }
        return found;
    }

    private static void dueConstants() throws ReflectiveOperationException {
        int rows = 0;
        for (String line : lines()) {
            Matcher row = Pattern.compile("\\| `(" + CONSTANTS + ")` \\| (-[0-9]) \\|.*").matcher(line);
            if (row.matches()) {
                rows++;
                int number = GlacierGuides.class.getField(row.group(1)).getInt(null);
                Checks.due(row.group(1), Integer.parseInt(row.group(2)), number);
            }
        }
        Checks.due("the constants", rows, CONSTANTS.split("\\|").length);
    }

    private static List<String> lines() {
        try {
            return Files.readAllLines(PLACE, StandardCharsets.UTF_8);
        } catch (IOException e) {
            throw new UncheckedIOException(e);
        }
    }
}
