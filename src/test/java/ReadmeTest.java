import java.net.URL;
import java.net.URLClassLoader;
import java.nio.file.Files;
import java.nio.file.Path;
import java.util.List;
import java.util.regex.Matcher;
import java.util.regex.Pattern;
import javax.tools.ToolProvider;

/** The example of README.md: each call answers what stands behind it. */
public final class ReadmeTest {
    private static final Pattern CALL = Pattern.compile("(wall\\.\\w+\\(.*\\));\\s+// (-?\\d+|true|false)\\b.*");

    public static void main(String[] args) throws Exception {
        Path build = Files.createTempDirectory("readme");
        Path file = build.resolve("ReadmeExample.java");
        build.toFile().deleteOnExit();
        file.toFile().deleteOnExit();
        build.resolve("ReadmeExample.class").toFile().deleteOnExit();
        Files.writeString(file, program(Files.readAllLines(Path.of("README.md"))));
        String classes = System.getProperty("java.class.path");
        int refused = ToolProvider.getSystemJavaCompiler().run(null, null, null, "-cp", classes, "-d", build.toString(),
            file.toString());
        Checks.same("the compiler", refused, 0);
        if (refused == 0) {
            run(build, Path.of(classes));
        }
        Checks.end();
    }

    /** The example as a program; a call with an answer behind it becomes a check. */
    private static String program(List<String> readme) {
        StringBuilder program = new StringBuilder("public class ReadmeExample { public static void main(String[] args) {\n");
        boolean isCode = false;
        int checks = 0;
        for (String line : readme) {
            if (line.startsWith("```")) {
                isCode = line.equals("```java");
            } else if (isCode) {
                Matcher call = CALL.matcher(line);
                boolean isCheck = call.matches();
                checks += isCheck ? 1 : 0;
                program.append(isCheck ? "Checks.same(\"" + call.group(1) + "\", " + call.group(1) + ", " + call.group(2) + ");"
                    : line).append('\n');
            }
        }
        Checks.same("there is an example", checks > 20, true);
        return program.append("Checks.end(); } }\n").toString();
    }

    /** All by one loader, as Checks is seen in its own package alone. */
    private static void run(Path build, Path classes) throws Exception {
        URL[] places = {build.toUri().toURL(), classes.toUri().toURL()};
        try (URLClassLoader loader = new URLClassLoader(places, ClassLoader.getPlatformClassLoader())) {
            loader.loadClass("ReadmeExample").getMethod("main", String[].class).invoke(null, (Object) new String[0]);
        }
    }
}
