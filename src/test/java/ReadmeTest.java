import java.io.IOException;
import java.lang.reflect.Method;
import java.lang.reflect.Modifier;
import java.net.URL;
import java.net.URLClassLoader;
import java.nio.file.Files;
import java.nio.file.Path;
import java.util.ArrayList;
import java.util.HashMap;
import java.util.List;
import java.util.Map;
import java.util.regex.Matcher;
import java.util.regex.Pattern;
import javax.tools.ToolProvider;

/** The calls that README.md shows, compiled as they stand there, with the answers that it shows behind them. */
public final class ReadmeTest {
    private static final Check C = new Check("ReadmeTest");
    private static final Path PAGE = Path.of("README.md");
    /** A call, and behind it what it answers: a number, or one of the class's constants. */
    private static final Pattern SHOWN = Pattern.compile("((?:bell\\.|tell\\().*\\)); *// ([-A-Z0-9]+)(?::? .*)?");
    private static final Pattern TABLE_ROW = Pattern.compile("\\| (-\\d+) +\\| `?([A-Z]+)`? +\\|.*");
    private static final Map<String, Integer> NAMED = new HashMap<>(Map.of("NULL", Check.NULL, "PLACE", Check.PLACE,
        "KIND", Check.KIND, "SIZE", Check.SIZE, "STORE", Check.STORE));

    /** The shown calls with the lines that they stand in, and their answers, in order. */
    private static final List<String> calls = new ArrayList<>();
    private static final List<Long> answers = new ArrayList<>();

    public static void main(String[] args) throws IOException, ReflectiveOperationException {
        NAMED.putAll(Map.of("NONE", DoorBell.NONE, "BAD", DoorBell.BAD, "STATE", DoorBell.STATE, "FULL", DoorBell.FULL));
        List<String> lines = Files.readAllLines(PAGE);
        List<Long> got = run(program(lines));
        C.due("answers", got.size(), answers.size());
        for (int k = 0; k < Math.min(got.size(), answers.size()); k++) {
            C.due(calls.get(k), got.get(k), answers.get(k));
        }
        everyCallIsShown();
        refusalsAreShown(lines);
        testsAreShown(lines);
        C.end();
    }

    // ---- the page as a program

    private static String program(List<String> lines) {
        StringBuilder members = new StringBuilder();
        StringBuilder body = new StringBuilder();
        StringBuilder into = null;
        for (int k = 0; k < lines.size(); k++) {
            String line = lines.get(k);
            if (line.startsWith("```")) {
                boolean isMember = k + 1 < lines.size() && lines.get(k + 1).startsWith("static ");
                into = !line.equals("```java") ? null : isMember ? members : body;
            } else if (into != null) {
                into.append(into == body ? statement(line, k + 1) : line).append('\n');
            }
        }
        return "public final class Shown {\n" + members + "public static java.util.List<Long> run() {\n"
            + "java.util.List<Long> got = new java.util.ArrayList<>();\n" + body + "return got;\n}\n}\n";
    }

    private static String statement(String line, int number) {
        Matcher shown = SHOWN.matcher(line);
        if (!shown.matches()) {
            C.due("line " + number + " has a comment without an answer", line.contains("//") ? 1 : 0, 0);
            return line;
        }
        String answer = shown.group(2);
        calls.add("line " + number + ": " + shown.group(1));
        answers.add(NAMED.containsKey(answer) ? (long) NAMED.get(answer) : Long.parseLong(answer));
        return "got.add((long) " + shown.group(1) + ");";
    }

    private static List<Long> run(String program) throws IOException, ReflectiveOperationException {
        Path dir = Files.createTempDirectory("readme");
        Path source = dir.resolve("Shown.java");
        Files.writeString(source, program);
        String path = System.getProperty("java.class.path");
        int refused = ToolProvider.getSystemJavaCompiler().run(null, null, null, "-encoding", "UTF-8", "-cp", path,
            "-d", dir.toString(), source.toString());
        C.due("README.md compiles", refused, 0);
        if (refused != 0) {
            return List.of();
        }
        try (URLClassLoader loader = new URLClassLoader(new URL[] {dir.toUri().toURL()})) {
            List<Long> got = new ArrayList<>();
            for (Object answer : (List<?>) loader.loadClass("Shown").getMethod("run").invoke(null)) {
                got.add((Long) answer);
            }
            return got;
        } finally {
            Files.deleteIfExists(dir.resolve("Shown.class"));
            Files.deleteIfExists(source);
            Files.deleteIfExists(dir);
        }
    }

    // ---- what the page must have

    private static void everyCallIsShown() {
        for (Method call : DoorBell.class.getDeclaredMethods()) {
            if (Modifier.isPublic(call.getModifiers())) {
                boolean isShown = calls.stream().anyMatch(shown -> shown.contains("bell." + call.getName() + "("));
                C.due(call.getName() + " is shown", isShown ? 1 : 0, 1);
            }
        }
    }

    private static void refusalsAreShown(List<String> lines) {
        int rows = 0;
        for (String line : lines) {
            Matcher row = TABLE_ROW.matcher(line);
            if (row.matches()) {
                rows++;
                C.due(row.group(2), NAMED.getOrDefault(row.group(2), 0), Long.parseLong(row.group(1)));
            }
        }
        C.due("refusals in the table", rows, NAMED.size());
        for (String name : NAMED.keySet()) {
            C.due(name + " is answered by a call", answers.contains((long) NAMED.get(name)) ? 1 : 0, 1);
        }
    }

    private static void testsAreShown(List<String> lines) throws IOException {
        String page = String.join("\n", lines);
        C.due(".ci/run is told", page.contains("    .ci/run\n") ? 1 : 0, 1);
        try (var files = Files.list(Path.of("src/test/java"))) {
            for (Path file : (Iterable<Path>) files::iterator) {
                String name = file.getFileName().toString().replace(".java", "");
                C.due(name + " is told", !name.endsWith("Test") || page.contains("`" + name + "`") ? 1 : 0, 1);
            }
        }
    }
}
