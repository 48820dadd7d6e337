import java.io.ByteArrayOutputStream;
import java.io.IOException;
import java.io.PrintStream;
import java.lang.reflect.Field;
import java.lang.reflect.Method;
import java.lang.reflect.Modifier;
import java.net.URL;
import java.net.URLClassLoader;
import java.nio.charset.StandardCharsets;
import java.nio.file.Files;
import java.nio.file.Path;
import java.util.List;
import java.util.stream.Stream;
import javax.tools.ToolProvider;

/** What README.md says: its program prints what stands there, and it names all calls, constants and tests. */
public final class ReadmeTest {
    private static final Path OUT = Path.of("build/readme");
    private static final Checks CHECKS = new Checks();

    public static void main(String[] args) throws IOException, ReflectiveOperationException {
        String readme = Files.readString(Path.of("README.md"));
        CHECKS.due("the program prints", block(readme, "text"), printedBy(block(readme, "java")));
        namesOfTheFace(readme);
        namesOfTheTests(readme);
        CHECKS.end("ReadmeTest");
    }

    /** What stands in the first block of a kind. */
    private static String block(String readme, String kind) {
        String start = "```" + kind + "\n";
        int from = readme.indexOf(start) + start.length();
        return readme.substring(from, readme.indexOf("```", from));
    }

    private static String printedBy(String program) throws IOException, ReflectiveOperationException {
        Files.createDirectories(OUT);
        Path source = Files.writeString(OUT.resolve("Show.java"), program);
        int compiled = ToolProvider.getSystemJavaCompiler().run(null, null, null, "-Xlint:all", "-Werror",
                "-d", OUT.toString(), "-cp", System.getProperty("java.class.path"), source.toString());
        CHECKS.due("javac of the program", 0, compiled);
        ByteArrayOutputStream printed = new ByteArrayOutputStream();
        PrintStream before = System.out;
        System.setOut(new PrintStream(printed, true, StandardCharsets.UTF_8));
        try (URLClassLoader loader = new URLClassLoader(new URL[] {OUT.toUri().toURL()})) {
            loader.loadClass("Show").getMethod("main", String[].class).invoke(null, (Object) new String[0]);
        } finally {
            System.setOut(before);
        }
        return printed.toString(StandardCharsets.UTF_8).replace(System.lineSeparator(), "\n");
    }

    private static void namesOfTheFace(String readme) {
        for (Method method : VillagePhotos.class.getDeclaredMethods()) {
            if (Modifier.isPublic(method.getModifiers())) {
                CHECKS.due("the page names " + method.getName(), true, readme.matches("(?s).*`" + method.getName() + "\\b.*"));
            }
        }
        for (Field field : VillagePhotos.class.getDeclaredFields()) {
            if (Modifier.isPublic(field.getModifiers())) {
                CHECKS.due("the page names " + field.getName(), true, readme.contains("`" + field.getName() + "`"));
            }
        }
    }

    private static void namesOfTheTests(String readme) throws IOException {
        try (Stream<Path> files = Files.list(Path.of("src/test/java"))) {
            List<String> tests = files.map(file -> file.getFileName().toString())
                    .filter(name -> name.endsWith("Test.java")).map(name -> name.replace(".java", "")).sorted().toList();
            List<String> rows = readme.lines().filter(line -> line.matches("\\| \\w+Test \\|.*"))
                    .map(line -> line.split(" ")[1]).sorted().toList();
            CHECKS.due("the tests in the table", tests, rows);
        }
    }
}
