import java.io.IOException;
import java.net.URL;
import java.net.URLClassLoader;
import java.nio.file.Files;
import java.nio.file.Path;
import java.util.List;
import java.util.regex.Matcher;
import java.util.regex.Pattern;
import javax.tools.ToolProvider;

/** The example of README.md, run as it stands: each call with a number behind it must answer that. */
public final class ReadmeTest {
    private static final Checks CHECKS = new Checks();

    public static void due(String call, long got, long want) {
        CHECKS.due(call, got, want);
    }

    public static void main(String[] args) throws IOException, ReflectiveOperationException {
        Path room = Files.createTempDirectory("readme");
        Path source = room.resolve("ReadmeRun.java");
        Files.writeString(source, program(Files.readAllLines(Path.of("README.md"))));
        int compiled = ToolProvider.getSystemJavaCompiler().run(null, null, null, "-d", room.toString(),
                "-cp", System.getProperty("java.class.path"), source.toString());
        CHECKS.due("the example compiles", compiled, 0);
        if (compiled == 0) {
            try (URLClassLoader loader = new URLClassLoader(new URL[] {room.toUri().toURL()})) {
                loader.loadClass("ReadmeRun").getMethod("run").invoke(null);
            }
        }
        for (String file : List.of("ReadmeRun.class", "ReadmeRun.java", "")) {
            Files.deleteIfExists(room.resolve(file));
        }
        CHECKS.end("ReadmeTest");
    }

    private static String program(List<String> readme) {
        Pattern told = Pattern.compile("(x\\..*\\)); +// (-?\\d+): .*");
        StringBuilder code = new StringBuilder("public class ReadmeRun {\n public static void run() {\n");
        int from = readme.indexOf("```java") + 1;
        for (int i = from; i < readme.size() && !readme.get(i).equals("```"); i++) {
            Matcher m = told.matcher(readme.get(i));
            code.append(m.matches()
                    ? "ReadmeTest.due(\"" + m.group(1) + "\", " + m.group(1) + ", " + m.group(2) + ");"
                    : readme.get(i)).append('\n');
        }
        return code.append(" }\n}\n").toString();
    }
}
