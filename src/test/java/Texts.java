/** Puts texts into an archive and takes the written ones out of it. */
final class Texts {
    private Texts() {
    }

    /** Appends a text of bytes 1 to 255, twenty at a time. */
    static int append(VillagePhotos archive, String text) {
        int length = 0;
        for (int at = 0; at < text.length(); at += 20) {
            length = archive.append(word(text, at), word(text, at + 4), word(text, at + 8),
                    word(text, at + 12), word(text, at + 16));
        }
        return length;
    }

    static int load(VillagePhotos archive, String text) {
        append(archive, text);
        return archive.load();
    }

    static VillagePhotos archive(String text) {
        VillagePhotos archive = new VillagePhotos();
        if (load(archive, text) < 0) {
            throw new AssertionError("error at " + archive.errorPosition() + " of: " + text);
        }
        return archive;
    }

    static String written(VillagePhotos archive) {
        int length = archive.writePictures();
        StringBuilder text = new StringBuilder();
        for (int k = 0; k < length; k++) {
            text.append((char) archive.writtenByte(k));
        }
        return text.toString();
    }

    private static int word(String text, int at) {
        int word = 0;
        for (int k = at; k < at + 4; k++) {
            word = word << 8 | (k < text.length() ? text.charAt(k) : 0);
        }
        return word;
    }
}
