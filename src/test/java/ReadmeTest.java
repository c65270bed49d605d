import java.io.IOException;
import java.lang.reflect.InvocationTargetException;
import java.net.URL;
import java.net.URLClassLoader;
import java.nio.file.Files;
import java.nio.file.Path;
import java.util.ArrayList;
import java.util.List;
import javax.tools.ToolProvider;

/**
 * The examples of README.md: they compile, and each call with a comment answers what the comment begins with,
 * up to its colon. The examples are made into the methods of one class, which tells the due and the given answers.
 */
public final class ReadmeTest {
    private static final Path README = Path.of("README.md");
    private static final String THROWS = "throws ";

    private static final Due due = new Due();

    public static void main(String[] args) throws IOException, ReflectiveOperationException {
        List<List<String>> examples = examplesOf(Files.readAllLines(README));
        due.tells("README.md has examples", true, () -> !examples.isEmpty());
        for (List<String> example : examples) {
            List<String[]> answers = answersOf(example);
            due.tells("an example tells answers", true, () -> !answers.isEmpty());
            for (String[] answer : answers) {
                due.compare("README.md: " + answer[0], answer[1], answer[2]);
            }
        }
        due.end();
    }

    private static List<List<String>> examplesOf(List<String> lines) {
        List<List<String>> examples = new ArrayList<>();
        List<String> example = null;
        for (String line : lines) {
            if (line.equals("```java")) {
                example = new ArrayList<>();
                examples.add(example);
            } else if (line.equals("```")) {
                example = null;
            } else if (example != null) {
                example.add(line);
            }
        }
        return examples;
    }

    /** For each call with a comment: the call, the due answer and the given one. */
    private static List<String[]> answersOf(List<String> example) throws IOException, ReflectiveOperationException {
        Path place = Files.createTempDirectory("readme");
        Path source = place.resolve("Example.java");
        Path compiled = place.resolve("Example.class");
        List<String[]> answers = new ArrayList<>();
        try {
            Files.write(source, classOf(example));
            int code = ToolProvider.getSystemJavaCompiler().run(null, null, null,
                "-cp", System.getProperty("java.class.path"), "-d", place.toString(), source.toString());
            due.is("javac of the example " + example, 0, () -> code);
            if (code == 0) {
                run(place.toUri().toURL(), answers);
            }
        } finally {
            Files.deleteIfExists(source);
            Files.deleteIfExists(compiled);
            Files.deleteIfExists(place);
        }
        return answers;
    }

    private static void run(URL place, List<String[]> answers) throws IOException, ReflectiveOperationException {
        try (URLClassLoader loader = new URLClassLoader(new URL[] {place})) {
            loader.loadClass("Example").getMethod("run", List.class).invoke(null, answers);
        } catch (InvocationTargetException thrown) {
            due.compare("the example itself", "no exception", String.valueOf(thrown.getCause()));
        }
    }

    private static List<String> classOf(List<String> example) {
        List<String> lines = new ArrayList<>();
        lines.add("public final class Example {");
        lines.add("    public static void run(java.util.List<String[]> answers) {");
        for (String line : example) {
            addStatements(line, lines);
        }
        lines.add("    }");
        lines.add("}");
        return lines;
    }

    private static void addStatements(String line, List<String> lines) {
        int comment = line.indexOf("//");
        if (comment < 0) {
            lines.add(line);
            return;
        }
        String statement = line.substring(0, comment).trim();
        String want = line.substring(comment + 2).split(":")[0].trim();
        int assigned = statement.indexOf(" = ");
        if (assigned >= 0) {
            lines.add(statement);
            statement = statement.substring(statement.indexOf(' '), assigned).trim() + ";";
        }
        String call = statement.substring(0, statement.length() - 1);
        String wanted = want.startsWith(THROWS) ? "\"" + want + "\"" : "String.valueOf(" + want + ")";
        lines.add("{ String got;");
        lines.add("try { got = String.valueOf(" + call + "); }");
        lines.add("catch (RuntimeException thrown) { got = \"" + THROWS + "\" + thrown.getClass().getSimpleName(); }");
        lines.add("answers.add(new String[] {\"" + call + "\", " + wanted + ", got}); }");
    }
}
