import java.io.IOException;
import java.nio.file.Files;
import java.nio.file.Path;
import java.util.ArrayList;
import java.util.Comparator;
import java.util.List;
import java.util.regex.Matcher;
import java.util.regex.Pattern;
import java.util.stream.Stream;
import javax.tools.ToolProvider;

/** Runs the examples of README.md as they stand there: what is told behind a call is what it must answer. */
public final class ReadmeTest {
    private static final Pattern BLOCK = Pattern.compile("```java\n(.*?)```", Pattern.DOTALL);
    private static final Pattern CALL = Pattern.compile("(x\\.\\w+\\(.*\\)); +// (-?\\d+|true|false|throws)\\b.*");

    private final StringBuilder methods = new StringBuilder();
    private final StringBuilder body = new StringBuilder();
    private int calls;

    public static void main(String[] args) throws Exception {
        Path place = Files.createTempDirectory("readme");
        try {
            new ReadmeTest().run(place);
        } finally {
            remove(place);
        }
        Check.end();
    }

    private void run(Path place) throws Exception {
        Matcher blocks = BLOCK.matcher(Files.readString(Path.of("README.md")));
        while (blocks.find()) {
            if (blocks.group(1).startsWith("static ")) {
                methods.append(blocks.group(1));
            } else {
                blocks.group(1).lines().forEach(this::add);
            }
        }
        Check.due("README.md has examples of calls", calls > 0, true);
        Path file = place.resolve("ReadmeExamples.java");
        Files.writeString(file, "final class ReadmeExamples {\n" + methods + "static void run() {\n" + body + "}\n}\n");
        String classes = System.getProperty("java.class.path");
        int result = ToolProvider.getSystemJavaCompiler().run(null, null, null, "-proc:none", "-cp", classes,
            "-d", place.toString(), file.toString());
        Check.due("README.md's examples compile", result, 0);
        if (result == 0) {
            runExamples(place);
        }
    }

    private static void runExamples(Path place) throws Exception {
        ClassLoader loader = new ClassLoader(ReadmeTest.class.getClassLoader()) {
            @Override
            protected Class<?> findClass(String name) throws ClassNotFoundException {
                try {
                    byte[] bytes = Files.readAllBytes(place.resolve(name + ".class"));
                    return defineClass(name, bytes, 0, bytes.length);
                } catch (IOException e) {
                    throw new ClassNotFoundException(name, e);
                }
            }
        };
        var run = loader.loadClass("ReadmeExamples").getDeclaredMethod("run");
        run.setAccessible(true);
        run.invoke(null);
    }

    private void add(String line) {
        Matcher call = CALL.matcher(line);
        if (!call.matches()) {
            boolean known = !line.contains("//");
            Check.due("README.md tells what is due: " + line, known, true);
            body.append(line).append('\n');
            return;
        }
        calls++;
        String due = call.group(2);
        String told = "\"README.md, " + call.group(1) + "\"";
        if (due.equals("throws")) {
            body.append("boolean threw").append(calls).append(" = false;\ntry {\n").append(call.group(1));
            body.append(";\n} catch (java.util.NoSuchElementException e) {\nthrew").append(calls).append(" = true;\n}\n");
            body.append("ReadmeTest.due(").append(told).append(", threw").append(calls).append(" ? 1 : 0, 1);\n");
        } else if (due.equals("true") || due.equals("false")) {
            body.append("ReadmeTest.due(").append(told).append(", ").append(call.group(1));
            body.append(" ? 1 : 0, ").append(due.equals("true") ? 1 : 0).append(");\n");
        } else {
            body.append("ReadmeTest.due(").append(told).append(", ").append(call.group(1)).append(", ").append(due).append(");\n");
        }
    }

    /** Called by the examples, which another loader has loaded: Check itself is not public. */
    public static void due(String what, long got, long want) {
        Check.due(what, got, want);
    }

    private static void remove(Path place) throws IOException {
        List<Path> all = new ArrayList<>();
        try (Stream<Path> found = Files.walk(place)) {
            found.sorted(Comparator.reverseOrder()).forEach(all::add);
        }
        for (Path each : all) {
            Files.delete(each);
        }
    }
}
