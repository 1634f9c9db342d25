import java.io.ByteArrayOutputStream;
import java.io.File;
import java.io.IOException;
import java.io.PrintStream;
import java.lang.reflect.Method;
import java.lang.reflect.Modifier;
import java.net.URL;
import java.net.URLClassLoader;
import java.nio.charset.StandardCharsets;
import java.nio.file.Files;
import java.nio.file.Path;
import java.util.regex.Matcher;
import java.util.regex.Pattern;
import java.util.stream.Stream;
import javax.tools.ToolProvider;

/** README.md tells the truth: its example compiles and prints what is told, and no method of the face is missing. */
public final class ReadmeTest {
    private static final Path README = Path.of("README.md");

    private static String block(String text, String kind) {
        Matcher m = Pattern.compile("```" + kind + "\n(.*?)```", Pattern.DOTALL).matcher(text);
        return m.find() ? m.group(1) : "no block " + kind;
    }

    private static int compile(Path source, Path classes) {
        return ToolProvider.getSystemJavaCompiler().run(null, null, null, "-d", classes.toString(),
                "-cp", System.getProperty("java.class.path"), source.toString());
    }

    private static String run(Path classes) throws IOException, ReflectiveOperationException {
        PrintStream usual = System.out;
        ByteArrayOutputStream printed = new ByteArrayOutputStream();
        try (URLClassLoader loader = new URLClassLoader(new URL[] {classes.toUri().toURL()})) {
            System.setOut(new PrintStream(printed, true, StandardCharsets.UTF_8));
            loader.loadClass("Example").getMethod("main", String[].class).invoke(null, (Object) new String[0]);
        } finally {
            System.setOut(usual);
        }
        return printed.toString(StandardCharsets.UTF_8).replace(System.lineSeparator(), "\n");
    }

    private static void delete(Path folder) throws IOException {
        try (Stream<Path> files = Files.walk(folder)) {
            files.map(Path::toFile).sorted(java.util.Comparator.reverseOrder()).forEach(File::delete);
        }
    }

    private static void example(String readme) throws IOException, ReflectiveOperationException {
        Path classes = Files.createTempDirectory("readme");
        try {
            Path source = Files.writeString(classes.resolve("Example.java"), block(readme, "java"));
            int result = compile(source, classes);
            Check.is(0, "compiling the example", 0, () -> result);
            Check.same("the example", block(readme, "text"), result == 0 ? run(classes) : "nothing");
        } finally {
            delete(classes);
        }
    }

    public static void main(String[] args) throws IOException, ReflectiveOperationException {
        String readme = Files.readString(README);
        example(readme);
        for (Method m : ParcelRailway.class.getDeclaredMethods()) {
            if (Modifier.isPublic(m.getModifiers())) {
                Check.holds(0, "README.md names " + m.getName(), true, () -> readme.contains("`" + m.getName() + "`"));
            }
        }
        Check.holds(0, "README.md tells how the tests are run", true, () -> readme.contains("    .ci/run\n"));
        Check.finish("ReadmeTest");
    }
}
