import java.io.IOException;
import java.lang.reflect.Field;
import java.lang.reflect.Method;
import java.lang.reflect.Modifier;
import java.nio.file.Files;
import java.nio.file.Path;
import java.util.ArrayList;
import java.util.List;
import java.util.Set;
import java.util.regex.Matcher;
import java.util.regex.Pattern;

/** The rules of ../shared/LANGUAGE.md that can be seen from the source's words and from the classes. */
public final class LanguageTest {
    private static final Path SOURCE = Path.of("src/main/java/VillagePhotos.java");
    private static final Checks CHECKS = new Checks();

    /** What the rules rule out, or what this program has no use for. */
    private static final String[] RULED_OUT = {
        "->", "::", "\\bsynchronized\\b", "\\bassert\\b", "\\bfinally\\b", "\\bcatch\\b", "\\btry\\b", "Exact\\(",
        "\\bSystem\\.(?!arraycopy\\()", "\\bMath\\.(?!min\\(|max\\(|abs\\(|floorDiv\\(|floorMod\\()",
        "\\bArrays\\.(?!fill\\(|copyOf\\(|copyOfRange\\()", "\\bInteger\\.(?!bitCount\\()", "\\bThread\\b", "\\bvar\\b",
        "\\bRandom\\b", "hashCode", "toString", "\\bvolatile\\b", "\\bnative\\b", "\\bstatic \\{", "\"\\s*\\+", "\\+\\s*\"",
    };

    private static final Set<String> EXCEPTIONS = Set.of("IllegalStateException", "IllegalArgumentException",
            "IndexOutOfBoundsException");

    public static void main(String[] args) throws IOException {
        List<String> lines = Files.readAllLines(SOURCE);
        CHECKS.due("a package line", false, lines.get(0).startsWith("package"));
        for (int k = 0; k < lines.size(); k++) {
            String line = withoutComment(lines.get(k));
            for (String pattern : RULED_OUT) {
                CHECKS.due("line " + (k + 1) + " has " + pattern, false, Pattern.compile(pattern).matcher(line).find());
            }
            if (line.startsWith("import ")) {
                CHECKS.due("an import", "import java.util.Arrays;", line);
            }
            Matcher thrown = Pattern.compile("throw (new (\\w+)\\()?").matcher(line);
            while (thrown.find()) {
                CHECKS.due("line " + (k + 1) + " throws what it may", true, EXCEPTIONS.contains(thrown.group(2)));
            }
        }
        lengthsOfMethods(lines);
        classes();
        CHECKS.end("LanguageTest");
    }

    private static String withoutComment(String line) {
        String code = line.strip();
        return code.startsWith("*") || code.startsWith("/*") || code.startsWith("//") ? "" : code;
    }

    private static void lengthsOfMethods(List<String> lines) {
        int start = 0;
        for (int k = 0; k < lines.size(); k++) {
            String line = lines.get(k);
            if (line.matches("( {4}| {8})[A-Za-z].*\\) ?(throws .*)?\\{")) {
                start = k;
            } else if (line.matches("( {4}| {8})\\}") && start > 0) {
                CHECKS.due("the method at line " + (start + 1) + " is short", true, k - start < 60);
            }
        }
    }

    private static void classes() {
        List<Class<?>> classes = new ArrayList<>(List.of(VillagePhotos.class.getDeclaredClasses()));
        classes.add(VillagePhotos.class);
        CHECKS.due("some twelve classes", true, classes.size() <= 12);
        for (Class<?> one : classes) {
            int fields = 0;
            for (Field field : one.getDeclaredFields()) {
                if (!Modifier.isStatic(field.getModifiers())) {
                    fields++;
                } else {
                    CHECKS.due(field + " is a constant", true, Modifier.isFinal(field.getModifiers()));
                }
            }
            CHECKS.due(one + " has some twenty fields", true, fields <= 20);
            for (Method method : one.getDeclaredMethods()) {
                CHECKS.due(method + " has at most seven parameters", true, method.getParameterCount() <= 7);
            }
        }
    }
}
