import java.io.ByteArrayOutputStream;
import java.io.PrintStream;
import java.net.URL;
import java.net.URLClassLoader;
import java.nio.charset.StandardCharsets;
import java.nio.file.Files;
import java.nio.file.Path;
import java.util.regex.Matcher;
import java.util.regex.Pattern;
import javax.tools.ToolProvider;

/** The programs in README.md: they compile, and print what stands behind them there. */
public final class ReadmeTest {
    private static final Check C = new Check("ReadmeTest");
    private static final Pattern PROGRAM =
        Pattern.compile("```java\n(.*?)```\n\n((?: {4}[^\n]*\n)+)", Pattern.DOTALL);
    private static final Pattern NAME = Pattern.compile("public final class (\\w+)");

    public static void main(String[] args) throws Exception {
        Path root = Path.of(System.getProperty("project.root", "."));
        String readme = Files.readString(root.resolve("README.md"), StandardCharsets.UTF_8);
        Path dir = Files.createTempDirectory("readme");
        int programs = 0;
        Matcher m = PROGRAM.matcher(readme);
        while (m.find()) {
            programs++;
            program(dir, m.group(1), m.group(2).replaceAll("(?m)^ {4}", ""));
        }
        C.due("programs of README.md that tell what they print", programs, readme.split("```java", -1).length - 1);
        C.so("README.md has a program", programs > 0);
        try (var files = Files.list(dir)) {
            for (Path file : files.toList()) {
                Files.delete(file);
            }
        }
        Files.delete(dir);
        C.end();
    }

    private static void program(Path dir, String text, String due) throws Exception {
        Matcher m = NAME.matcher(text);
        C.so("a program has a name: " + text, m.find());
        String name = m.group(1);
        Path file = dir.resolve(name + ".java");
        Files.writeString(file, text, StandardCharsets.UTF_8);
        int compiled = ToolProvider.getSystemJavaCompiler().run(null, null, null, "-d", dir.toString(), "-cp",
            System.getProperty("java.class.path"), file.toString());
        C.due(name + " compiles", compiled, 0);
        if (compiled == 0) {
            String is = printed(dir, name);
            C.so(name + " printed " + is + "due is " + due, is.equals(due));
        }
    }

    private static String printed(Path dir, String name) throws Exception {
        ByteArrayOutputStream bytes = new ByteArrayOutputStream();
        PrintStream out = System.out;
        try (URLClassLoader loader = new URLClassLoader(new URL[] {dir.toUri().toURL()})) {
            System.setOut(new PrintStream(bytes, true, StandardCharsets.UTF_8));
            loader.loadClass(name).getMethod("main", String[].class).invoke(null, (Object) new String[0]);
        } finally {
            System.setOut(out);
        }
        return bytes.toString(StandardCharsets.UTF_8).replace(System.lineSeparator(), "\n");
    }
}
