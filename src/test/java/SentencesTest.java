import java.io.IOException;
import java.nio.file.Files;
import java.nio.file.Path;
import java.util.ArrayList;
import java.util.LinkedHashMap;
import java.util.List;
import java.util.Map;
import java.util.regex.Matcher;
import java.util.regex.Pattern;

/** Each sentence of the document that names a boundary case, with a test of its own. */
public final class SentencesTest {
    private static final Path DOCUMENT = Path.of("../shared/DOC.md");

    /** Headings that begin a section, and how the quotes name it. */
    private static final Pattern PROMISE = Pattern.compile("## (Promise \\d+):.*");
    private static final Pattern TERM = Pattern.compile("(\\d)\\. [A-Z, ]+");

    /** Lines that stand under many promises and say nothing of their own. */
    private static final Pattern SAYS_NOTHING = Pattern.compile(
            "- `(picture|family|one)`: number of a (picture|family)|Returns the (requested )?number\\.|"
            + "Returns the set of bits\\.|Returns the byte\\.|Ahead of the calls .*");

    public static void main(String[] args) throws IOException {
        Sentences sentences = new Sentences();
        new SentencesOfTerms(sentences).all();
        new SentencesOfTexts(sentences).all();
        new SentencesOfRules(sentences).all();
        new SentencesOfLooking(sentences).all();
        new SentencesOfChanging(sentences).all();
        if (Files.exists(DOCUMENT)) {
            compare(sentences.checks, sentences.quotes(), sentencesOf(Files.readString(DOCUMENT)));
        } else {
            System.out.println(DOCUMENT + " is not there: the quotes are not compared with it");
        }
        sentences.checks.end("SentencesTest");
    }

    private static Map<String, List<String>> sentencesOf(String document) {
        Map<String, List<String>> sections = new LinkedHashMap<>();
        String section = "";
        for (String line : document.replaceAll("(?s)```.*?```", "").split("\n")) {
            String heading = headingOf(line);
            if (heading != null) {
                section = heading;
            } else if (!line.isBlank() && !section.isEmpty()) {
                sections.computeIfAbsent(section, any -> new ArrayList<>()).addAll(partsOf(line));
            }
        }
        return sections;
    }

    /** The section that a line begins: its name, an empty one for what needs no test, or null. */
    private static String headingOf(String line) {
        Matcher promise = PROMISE.matcher(line);
        if (promise.matches()) {
            return promise.group(1);
        }
        Matcher term = TERM.matcher(line);
        if (term.matches()) {
            return "Term " + term.group(1);
        }
        if (line.equals("## What it is")) {
            return "What it is";
        }
        return line.startsWith("#") ? "" : null;
    }

    /** The sentences of a line; what stands behind a semicolon is one of its own. */
    private static List<String> partsOf(String line) {
        List<String> parts = new ArrayList<>();
        boolean whole = line.startsWith("- `") || line.startsWith("Throws ");
        for (String part : whole ? new String[] {line} : line.split("(?<=[.;])\\s+")) {
            if (!SAYS_NOTHING.matcher(part).matches()) {
                parts.add(part);
            }
        }
        return parts;
    }

    private static void compare(Checks checks, Map<String, List<String>> quotes, Map<String, List<String>> sentences) {
        checks.due("the sections", sentences.keySet(), quotes.keySet());
        for (Map.Entry<String, List<String>> section : sentences.entrySet()) {
            List<String> quoted = quotes.getOrDefault(section.getKey(), List.of());
            for (String sentence : section.getValue()) {
                checks.due(section.getKey() + " has a test for \"" + sentence + "\"", true,
                        quoted.stream().anyMatch(sentence::contains));
            }
            for (String quote : quoted) {
                checks.due(section.getKey() + " has the words \"" + quote + "\"", true,
                        section.getValue().stream().anyMatch(sentence -> sentence.contains(quote)));
            }
        }
    }
}
