import java.io.IOException;
import java.io.StringWriter;
import java.lang.reflect.Method;
import java.net.URL;
import java.net.URLClassLoader;
import java.nio.file.Files;
import java.nio.file.Path;
import java.util.List;
import java.util.TreeSet;
import java.util.regex.Matcher;
import java.util.regex.Pattern;
import javax.tools.JavaCompiler;
import javax.tools.StandardJavaFileManager;
import javax.tools.ToolProvider;

/** README.md: its examples answer as it says, and its table tells what each call throws. */
public final class ReadmeTest {
    private static final Path README = Path.of("README.md");
    private static final Path SOURCE = Path.of("src", "main", "java", "RollerHorses.java");
    private static final Pattern EXAMPLE = Pattern.compile("```java\n(.*?)```", Pattern.DOTALL);
    private static final Pattern ANSWER = Pattern.compile("(?m)^(ground\\..*); *// = (-?\\d+)\\b.*$");
    private static final Pattern ROW = Pattern.compile("(?m)^\\| `(\\w+Exception)` \\|[^|]*\\|([^|]*)\\|$");

    public static void main(String[] args) throws Exception {
        String text = Files.readString(README);
        examples(text);
        exceptions(text);
        tests(text);
        Due.end();
    }

    /** The examples, as one run of calls, with each answer that is told behind "// =". */
    private static void examples(String text) throws Exception {
        StringBuilder source = new StringBuilder("public final class Example {\n  public static String wrong() {\n");
        source.append("StringBuilder wrong = new StringBuilder();\n");
        int answers = 0;
        for (Matcher example = EXAMPLE.matcher(text); example.find();) {
            String lines = example.group(1);
            answers += (int) ANSWER.matcher(lines).results().count();
            source.append(ANSWER.matcher(lines).replaceAll("wrong.append($1 == $2 ? \"\" : \"not $2; \");"));
        }
        source.append("return wrong.toString();\n}\n}\n");
        int told = answers;
        Due.is(7, "README.md: answers that are told", () -> told);
        Due.is("", "README.md: the examples", () -> runExample(source.toString()));
    }

    private static String runExample(String source) {
        try {
            Path place = Files.createTempDirectory("readme");
            Path file = place.resolve("Example.java");
            Files.writeString(file, source);
            String refused = compile(place, file);
            if (!refused.isEmpty()) {
                return refused;
            }
            try (URLClassLoader loader = new URLClassLoader(new URL[] {place.toUri().toURL()}, null)) {
                return (String) loader.loadClass("Example").getMethod("wrong").invoke(null);
            }
        } catch (IOException | ReflectiveOperationException e) {
            return e + ", " + e.getCause();
        }
    }

    private static String compile(Path place, Path file) throws IOException {
        JavaCompiler compiler = ToolProvider.getSystemJavaCompiler();
        StringWriter said = new StringWriter();
        try (StandardJavaFileManager files = compiler.getStandardFileManager(null, null, null)) {
            List<String> options = List.of("-proc:none", "-d", place.toString());
            boolean isDone = compiler.getTask(said, files, null, options, null, files.getJavaFileObjects(SOURCE, file)).call();
            return isDone ? "" : "not compiled: " + said;
        }
    }

    /** Each row names the methods that declare its exception, and no other method. */
    private static void exceptions(String text) {
        TreeSet<String> told = new TreeSet<>();
        for (Matcher row = ROW.matcher(text); row.find();) {
            for (String name : row.group(2).replaceAll("[` ]+", " ").strip().split(" ")) {
                told.add(row.group(1) + " by " + name);
            }
        }
        TreeSet<String> declared = new TreeSet<>();
        for (Method method : RollerHorses.class.getDeclaredMethods()) {
            for (Class<?> thrown : method.getExceptionTypes()) {
                declared.add(thrown.getSimpleName() + " by " + method.getName());
            }
        }
        Due.is(String.join("\n", declared), "README.md: what calls throw", () -> String.join("\n", told));
    }

    /** Each test has its row. */
    private static void tests(String text) throws IOException {
        try (java.util.stream.Stream<Path> files = Files.list(Path.of("src", "test", "java"))) {
            for (Path file : (Iterable<Path>) files::iterator) {
                String name = file.getFileName().toString().replace(".java", "");
                Due.is(true, "README.md: " + name + " is told of", () -> text.contains("`" + name + "`"));
            }
        }
    }
}
