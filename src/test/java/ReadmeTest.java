import java.io.IOException;
import java.lang.reflect.Method;
import java.lang.reflect.Modifier;
import java.net.URL;
import java.net.URLClassLoader;
import java.nio.file.Files;
import java.nio.file.Path;
import java.util.ArrayList;
import java.util.Iterator;
import java.util.List;
import java.util.concurrent.Callable;
import java.util.function.Consumer;
import java.util.regex.Matcher;
import java.util.regex.Pattern;
import java.util.stream.Stream;
import javax.tools.JavaCompiler;
import javax.tools.ToolProvider;

/** What README.md says holds: its calls answer as it says, and it leaves out no call and no test. */
public final class ReadmeTest {
    private static final Path README = Path.of("README.md");
    private static final Path TESTS = Path.of("src", "test", "java");
    private static final String PROGRAM = "ReadmeCalls";

    // "int home = merger.add(0, 7);   // 0: a card in book 0": the variable, the call and what it answers.
    private static final Pattern CALL =
            Pattern.compile("(?:int (\\w+) = )?(merger\\.(\\w+)\\(.*\\)); +// (throws \\w+|[^:\\s]+)(?::.*)?");

    public static void main(String[] args) throws IOException, ReflectiveOperationException {
        List<String> lines = linesOfJava();
        callsAnswerAsTold(lines);
        everyCallIsShown(lines);
        everyTestIsNamed();
        Checks.end("ReadmeTest");
    }

    private static List<String> linesOfJava() throws IOException {
        List<String> found = new ArrayList<>();
        boolean inside = false;
        for (String line : Files.readAllLines(README)) {
            if (line.startsWith("```")) {
                inside = line.equals("```java");
            } else if (inside) {
                found.add(line);
            }
        }
        return found;
    }

    private static void callsAnswerAsTold(List<String> lines) throws IOException, ReflectiveOperationException {
        StringBuilder body = new StringBuilder();
        List<String> asked = new ArrayList<>();
        List<String> due = new ArrayList<>();
        for (String line : lines) {
            Matcher call = CALL.matcher(line);
            if (call.matches()) {
                asked.add(call.group(2));
                due.add(call.group(4));
                body.append(handedOver(call.group(1), call.group(2)));
            } else {
                body.append(line).append('\n');
            }
        }
        Iterator<String> nextAsked = asked.iterator();
        Iterator<String> nextDue = due.iterator();
        run("public final class " + PROGRAM + " {\n    public static void run("
                        + "java.util.function.Consumer<java.util.concurrent.Callable<Object>> answers) {\n"
                        + body + "    }\n}\n",
                answer -> Checks.same("README: " + nextAsked.next(), outcome(answer), nextDue.next()));
        Checks.holds("README: all its calls were made", false, () -> nextDue.hasNext());
    }

    private static String handedOver(String variable, String call) {
        String answer = variable == null ? call : variable;
        String before = variable == null ? "" : "int " + variable + " = " + call + ";\n";
        return before + "answers.accept(() -> " + answer + ");\n";
    }

    private static String outcome(Callable<Object> answer) {
        try {
            return String.valueOf(answer.call());
        } catch (Exception thrown) {
            return "throws " + thrown.getClass().getSimpleName();
        }
    }

    private static void run(String program, Consumer<Callable<Object>> answers)
            throws IOException, ReflectiveOperationException {
        JavaCompiler compiler = ToolProvider.getSystemJavaCompiler();
        Path place = Files.createTempDirectory("readme");
        Path source = place.resolve(PROGRAM + ".java");
        Files.writeString(source, program);
        int failed = compiler == null ? 1 : compiler.run(null, null, null, "-d", place.toString(),
                "-cp", System.getProperty("java.class.path"), source.toString());
        Checks.answers("README: compiles", 0, () -> failed);
        if (failed == 0) {
            try (URLClassLoader loader = new URLClassLoader(new URL[] {place.toUri().toURL()})) {
                loader.loadClass(PROGRAM).getMethod("run", Consumer.class).invoke(null, answers);
            }
        }
        Files.deleteIfExists(place.resolve(PROGRAM + ".class"));
        Files.delete(source);
        Files.delete(place);
    }

    private static void everyCallIsShown(List<String> lines) {
        for (Method method : CardMerger.class.getDeclaredMethods()) {
            if (Modifier.isPublic(method.getModifiers())) {
                boolean shown = lines.stream().map(CALL::matcher)
                        .anyMatch(call -> call.matches() && call.group(3).equals(method.getName()));
                Checks.holds("README: shows " + method.getName(), true, () -> shown);
            }
        }
        for (String line : lines) {
            boolean told = CALL.matcher(line).matches() || line.equals("CardMerger merger = new CardMerger();");
            Checks.holds("README: tells what is answered by " + line, true, () -> told);
        }
    }

    private static void everyTestIsNamed() throws IOException {
        String readme = Files.readString(README);
        try (Stream<Path> files = Files.list(TESTS)) {
            for (Path file : files.sorted().toList()) {
                String name = "`" + file.getFileName().toString().replace(".java", "") + "`";
                Checks.holds("README: names " + name, true, () -> readme.contains(name));
            }
        }
        Matcher named = Pattern.compile("`(\\w+Test)`").matcher(readme);
        while (named.find()) {
            String name = named.group(1);
            Checks.holds("README: there is a " + name, true, () -> Files.exists(TESTS.resolve(name + ".java")));
        }
    }
}
