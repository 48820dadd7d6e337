import java.util.ArrayList;
import java.util.HashMap;
import java.util.List;
import java.util.Map;

/**
 * Tests of single sentences: each one quotes the words of the document that it is for, and the
 * quotes are compared with the document, so that no sentence is forgotten and none is made up.
 */
final class Sentences {
    final Checks checks = new Checks();
    private final Map<String, List<String>> quotes = new HashMap<>();
    private String section = "";

    /** The section of the document to which the next quotes belong, as SentencesTest names it. */
    void in(String newSection) {
        section = newSection;
    }

    /** A test of what the quoted words say, on objects of its own. */
    void edge(String quote, Runnable test) {
        plain(quote);
        checks.setAbout(section + ", \"" + quote + "\": ");
        int before = checks.made();
        test.run();
        checks.due("something is checked", true, checks.made() > before);
        checks.setAbout("");
    }

    /** Words that tell what a thing is and name no case of their own. */
    void plain(String quote) {
        quotes.computeIfAbsent(section, any -> new ArrayList<>()).add(quote);
    }

    Map<String, List<String>> quotes() {
        return quotes;
    }

    /** A new archive that has read a text without an error. */
    VillagePhotos good(String text) {
        VillagePhotos archive = new VillagePhotos();
        checks.due("an error code of " + text, false, Texts.load(archive, text) < 0);
        checks.due("the position of " + text, VillagePhotos.NONE, archive.errorPosition());
        return archive;
    }

    /** A text with an error where its second part begins. */
    void error(int code, String before, String from) {
        VillagePhotos archive = new VillagePhotos();
        checks.due("load of " + before + from, code, Texts.load(archive, before + from));
        checks.due("position in " + before + from, before.length(), archive.errorPosition());
        checks.due("what is behind " + before + from, UndoTest.seen(new VillagePhotos()), UndoTest.seen(archive));
        checks.isThrown("undo behind " + before + from, IllegalStateException.class, archive::undo);
    }
}
