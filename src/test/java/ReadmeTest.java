import java.io.File;
import java.lang.reflect.Method;
import java.lang.reflect.Modifier;
import java.net.URI;
import java.net.URL;
import java.net.URLClassLoader;
import java.nio.file.Files;
import java.nio.file.Path;
import java.util.ArrayList;
import java.util.List;
import java.util.regex.Matcher;
import java.util.regex.Pattern;
import javax.tools.JavaCompiler;
import javax.tools.JavaFileObject;
import javax.tools.SimpleJavaFileObject;
import javax.tools.ToolProvider;

/** README.md shows an example that answers as it says, and names all calls and all tests. */
public final class ReadmeTest {
    private static final Pattern EXAMPLE = Pattern.compile("```java\n(.*?)```", Pattern.DOTALL);
    private static final Pattern ANSWERED = Pattern.compile("(floats\\..*\\));\\s+// (-?\\d+): .*");

    public static void main(String[] args) throws Exception {
        String readme = Files.readString(Path.of("README.md"));
        Matcher example = EXAMPLE.matcher(readme);
        Checks.isTrue("there is an example", example.find());
        runExample(example.group(1));
        for (Method m : SiltedFloats.class.getDeclaredMethods()) {
            boolean isOpen = Modifier.isPublic(m.getModifiers());
            Checks.isTrue("the call " + m.getName() + " is named", !isOpen || readme.contains("`" + m.getName() + "`"));
        }
        for (String file : new File("src/test/java").list()) {
            Checks.isTrue("the test " + file + " is named", !file.endsWith("Test.java") || readme.contains(file));
        }
        Checks.end();
    }

    /** The answers of those lines of the example that show one are collected and compared with what they show. */
    private static void runExample(String lines) throws Exception {
        StringBuilder text = new StringBuilder("public class Example {\n");
        text.append("public static void run(java.util.List<Integer> answers) {\n");
        List<String> calls = new ArrayList<>();
        List<Integer> shown = new ArrayList<>();
        for (String line : lines.split("\n")) {
            Matcher answered = ANSWERED.matcher(line);
            if (answered.matches()) {
                calls.add(answered.group(1));
                shown.add(Integer.valueOf(answered.group(2)));
                text.append("answers.add(").append(answered.group(1)).append(");\n");
            } else {
                text.append(line).append('\n');
            }
        }
        Checks.isTrue("the example shows answers", shown.size() > 10);
        List<Integer> answers = answersOf(text + "}}\n");
        for (int i = 0; i < shown.size(); i++) {
            Checks.due("README.md: " + calls.get(i), answers.get(i), shown.get(i));
        }
    }

    private static List<Integer> answersOf(String text) throws Exception {
        List<Integer> answers = new ArrayList<>();
        Path out = Files.createTempDirectory("readme");
        Checks.isTrue("the example compiles", compile(text, out));
        try (URLClassLoader loader = new URLClassLoader(new URL[] {out.toUri().toURL()})) {
            loader.loadClass("Example").getMethod("run", List.class).invoke(null, answers);
        } finally {
            Files.deleteIfExists(out.resolve("Example.class"));
            Files.deleteIfExists(out);
        }
        return answers;
    }

    private static boolean compile(String text, Path out) {
        JavaCompiler compiler = ToolProvider.getSystemJavaCompiler();
        JavaFileObject file = new SimpleJavaFileObject(URI.create("string:///Example.java"), JavaFileObject.Kind.SOURCE) {
            @Override
            public CharSequence getCharContent(boolean ignoreEncodingErrors) {
                return text;
            }
        };
        List<String> options = List.of("-d", out.toString(), "-cp", System.getProperty("java.class.path"));
        return compiler.getTask(null, null, null, options, null, List.of(file)).call();
    }
}
