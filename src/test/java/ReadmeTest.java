import java.lang.reflect.Method;
import java.lang.reflect.Modifier;
import java.net.URL;
import java.net.URLClassLoader;
import java.nio.file.Files;
import java.nio.file.Path;
import java.util.regex.Matcher;
import java.util.regex.Pattern;
import javax.tools.ToolProvider;

/** What README.md says of the class: its example is run as it stands, and every call of the face is told of. */
public final class ReadmeTest {
    private static final Pattern EXAMPLE = Pattern.compile("```java\n(.*?)```", Pattern.DOTALL);
    private static final Pattern ANSWER = Pattern.compile("^(x\\..*);\\s*// (-?\\d+)\\b.*$", Pattern.MULTILINE);

    private static final Check CHECK = new Check();

    public static void main(String[] args) throws Exception {
        String readme = Files.readString(Path.of(args[0]).toAbsolutePath().resolve("../../../../README.md").normalize());
        example(readme);
        calls(readme.substring(readme.indexOf("### Calls"), readme.indexOf("### Answers")));
        refusals(readme);
        CHECK.end("ReadmeTest");
    }

    /** The example calls this with each answer that it tells. */
    public static void due(String call, long got, long want) {
        CHECK.due(call, got, want);
    }

    private static void example(String readme) throws Exception {
        Matcher example = EXAMPLE.matcher(readme);
        CHECK.due("there is an example", example.find() ? 1 : 0, 1);
        Matcher answers = ANSWER.matcher(example.group(1));
        CHECK.due("it tells answers", answers.results().count() > 0 ? 1 : 0, 1);
        String body = answers.replaceAll("ReadmeTest.due(\"$1\", $1, $2);");
        Path folder = Files.createTempDirectory("readme");
        Path source = folder.resolve("Example.java");
        Path compiled = folder.resolve("Example.class");
        Files.writeString(source, "public final class Example {\n    public static void run() {\n" + body + "    }\n}\n");
        int failed = ToolProvider.getSystemJavaCompiler().run(null, null, null,
                "-cp", System.getProperty("java.class.path"), "-d", folder.toString(), source.toString());
        CHECK.due("the example compiles", failed, 0);
        if (failed == 0) {
            try (URLClassLoader loader = new URLClassLoader(new URL[] {folder.toUri().toURL()})) {
                loader.loadClass("Example").getMethod("run").invoke(null);
            }
        }
        Files.deleteIfExists(compiled);
        Files.deleteIfExists(source);
        Files.deleteIfExists(folder);
    }

    private static void calls(String table) {
        for (Method call : SupperTales.class.getDeclaredMethods()) {
            if (Modifier.isPublic(call.getModifiers())) {
                CHECK.due("README tells of " + call.getName(), table.contains("`" + call.getName() + "`") ? 1 : 0, 1);
            }
        }
    }

    private static void refusals(String readme) throws Exception {
        for (String name : new String[] {"UNKNOWN", "OUTSIDE", "STATE", "FULL", "NONE"}) {
            int number = SupperTales.class.getField(name).getInt(null);
            CHECK.due("README tells " + name, readme.contains("| `" + name + "` | " + number + " |") ? 1 : 0, 1);
        }
    }
}
