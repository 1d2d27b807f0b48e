import java.io.ByteArrayOutputStream;
import java.io.IOException;
import java.io.PrintStream;
import java.lang.reflect.InvocationTargetException;
import java.net.URL;
import java.net.URLClassLoader;
import java.nio.charset.StandardCharsets;
import java.nio.file.Files;
import java.nio.file.Path;
import java.util.regex.Matcher;
import java.util.regex.Pattern;
import javax.tools.ToolProvider;

/** The program in README.md prints what README.md says. */
public final class ReadmeTest {
    private static final Path PLACE = Path.of("build/ci/readme");

    private ReadmeTest() {
    }

    private static String block(String readme, String kind) {
        Matcher block = Pattern.compile("(?s)```" + kind + "\n(.*?)```").matcher(readme);
        return block.find() ? block.group(1) : "";
    }

    private static boolean compiles(String program) throws IOException {
        Files.createDirectories(PLACE);
        Path file = Files.writeString(PLACE.resolve("Example.java"), program);
        String classes = System.getProperty("java.class.path");
        return ToolProvider.getSystemJavaCompiler().run(null, null, null, "-cp", classes, "-d", PLACE.toString(),
                file.toString()) == 0;
    }

    private static String printed() throws IOException, ReflectiveOperationException {
        PrintStream out = System.out;
        ByteArrayOutputStream bytes = new ByteArrayOutputStream();
        try (URLClassLoader loader = new URLClassLoader(new URL[] {PLACE.toUri().toURL()})) {
            System.setOut(new PrintStream(bytes, true, StandardCharsets.UTF_8));
            loader.loadClass("Example").getMethod("main", String[].class).invoke(null, (Object) new String[0]);
        } catch (InvocationTargetException thrown) {
            return "threw " + thrown.getCause();
        } finally {
            System.setOut(out);
        }
        return bytes.toString(StandardCharsets.UTF_8);
    }

    public static void main(String[] args) throws IOException, ReflectiveOperationException {
        String readme = Files.readString(Path.of("README.md"));
        boolean compiled = compiles(block(readme, "java"));
        Checks.due("README.md's program compiles", true, compiled);
        if (compiled) {
            String[] got = printed().split("\n", -1);
            String[] want = block(readme, "text").split("\n", -1);
            Checks.due("the lines that README.md's program prints", want.length, got.length);
            for (int i = 0; i < Math.min(got.length, want.length); i++) {
                Checks.due("README.md's line '" + want[i] + "' is '" + got[i] + "', which", true, want[i].equals(got[i]));
            }
        }
        Checks.end();
    }
}
