import java.io.IOException;
import java.lang.reflect.Method;
import java.lang.reflect.Modifier;
import java.net.URL;
import java.net.URLClassLoader;
import java.nio.file.Files;
import java.nio.file.Path;
import java.util.List;
import java.util.regex.Matcher;
import java.util.regex.Pattern;
import javax.tools.ToolProvider;

/**
 * What README.md tells of the class: its example is compiled as it stands there, and the calls in it have to answer what
 * is told behind them; and it names every call there is.
 */
public final class ReadmeTest {
    /** A call, kept in a variable or not, and the answer told behind it, as far as a colon. */
    private static final Pattern CALL = Pattern.compile("(?:\\w+ (\\w+) = )?(school\\..*);\\s*// ([^:\\s]+)(:.*)?");

    private ReadmeTest() { }

    public static void main(String[] args) throws IOException, ReflectiveOperationException {
        List<String> readme = Files.readAllLines(Path.of("README.md"));
        List<String> example = exampleIn(readme);
        String[] answers = answersOf(example);
        int calls = 0;
        for (String line : example) {
            Matcher call = CALL.matcher(line);
            if (call.matches()) {
                Due.same(call.group(2), calls < answers.length ? answers[calls] : "nothing", call.group(3));
                calls++;
            } else {
                Due.isNot("no answer behind a call, '" + line + "',", line.contains("school."));
            }
        }
        Due.isSo("the example has calls", calls > 0);
        for (Method method : Classfederation.class.getDeclaredMethods()) {
            if (Modifier.isPublic(method.getModifiers())) {
                String name = "`" + method.getName() + "`";
                Due.isSo("the README names " + name, readme.stream().anyMatch(line -> line.contains(name)));
            }
        }
        Due.end();
    }

    private static List<String> exampleIn(List<String> readme) {
        List<String> from = readme.subList(readme.indexOf("```java") + 1, readme.size());
        return from.subList(0, from.indexOf("```"));
    }

    /** Compiles the example and runs it. */
    private static String[] answersOf(List<String> example) throws IOException, ReflectiveOperationException {
        Path dir = Files.createTempDirectory("readme");
        Path source = Files.writeString(dir.resolve("Example.java"), programOf(example));
        String classes = System.getProperty("java.class.path");
        int exit = ToolProvider.getSystemJavaCompiler().run(null, null, null, "-cp", classes, source.toString());
        Due.is("javac of the example", exit, 0);
        try (URLClassLoader loader = new URLClassLoader(new URL[] {dir.toUri().toURL()})) {
            return loader.loadClass("Example").getMethod("run").invoke(null).toString().split("\n");
        } finally {
            Files.deleteIfExists(dir.resolve("Example.class"));
            Files.delete(source);
            Files.delete(dir);
        }
    }

    /** The example, its calls' answers noted in a text, each in a line. */
    private static String programOf(List<String> example) {
        StringBuilder program = new StringBuilder("public final class Example {\npublic static String run() {\n"
                + "StringBuilder answers = new StringBuilder();\n");
        for (String line : example) {
            Matcher call = CALL.matcher(line);
            boolean isCall = call.matches();
            boolean isKept = isCall && call.group(1) != null;
            if (!isCall || isKept) {
                program.append(line).append('\n');
            }
            if (isCall) {
                program.append("answers.append(").append(call.group(isKept ? 1 : 2)).append(").append('\\n');\n");
            }
        }
        return program.append("return answers.toString();\n}\n}\n").toString();
    }
}
