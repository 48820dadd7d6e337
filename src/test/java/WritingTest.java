/** Promises 37 and 38: the pictures as a text. */
public final class WritingTest {
    private static final Checks CHECKS = new Checks();

    public static void main(String[] args) {
        noPictures();
        marks();
        namesAndHyphens();
        inPlaceOfTheLast();
        longestText();
        CHECKS.end("WritingTest");
    }

    private static void noPictures() {
        VillagePhotos archive = new VillagePhotos();
        CHECKS.outsideOne("a byte at first", 0, archive::writtenByte);
        CHECKS.due("an empty text", 0, archive.writePictures());
        CHECKS.outsideOne("a byte of it", 0, archive::writtenByte);
    }

    private static void marks() {
        VillagePhotos archive = Texts.archive(SetupTest.VILLAGE);
        String want = "mill:anna,bo,carl lake:carl,dora* barn:*";
        CHECKS.due("length", want.length(), archive.writePictures());
        for (int k = 0; k < want.length(); k++) {
            CHECKS.due("byte " + k, (int) want.charAt(k), archive.writtenByte(k));
        }
        CHECKS.outsideOne("a byte", want.length(), archive::writtenByte);
        archive.ask(0, 0, 0);
        archive.ask(1, 3, 7);
        CHECKS.due("broken ones", "mill:anna!,bo,carl lake:carl,dora!* barn:*", Texts.written(archive));
        archive.ask(0, 1, 3);
        CHECKS.due("in danger", "mill:anna!,bo!,carl* lake:carl,dora!* barn:*", Texts.written(archive));
        archive.setPledge(0, 1);
        archive.setPledge(1, 1);
        CHECKS.due("no more in danger", "mill:anna!,bo!,carl lake:carl,dora! barn:*", Texts.written(archive));
    }

    private static void namesAndHyphens() {
        VillagePhotos archive = Texts.archive("tiles 4;family abcdefgh 9;family zz 9;family yz 9;"
                + "near abcdefgh zz;picture aaaaaaaa pledge 2 by zz by abcdefgh;picture z pledge 4 by zz;");
        CHECKS.due("in the order of numbers", "aaaaaaaa:abcdefgh,zz z:zz*", Texts.written(archive));
        archive.join(20);
        archive.join(20);
        archive.meet(1, 3);
        archive.meet(1, 4);
        archive.spread();
        CHECKS.due("hyphens", "aaaaaaaa:abcdefgh,zz z:abcdefgh,zz,-,-", Texts.written(archive));
        archive.leave(0);
        CHECKS.due("names of those behind", "aaaaaaaa:zz* z:zz,-,-*", Texts.written(archive));
    }

    private static void inPlaceOfTheLast() {
        VillagePhotos archive = Texts.archive("tiles 4;family a 9;family b 9;"
                + "picture p pledge 1 by a spoiled 0;picture q pledge 1 by b;");
        CHECKS.due("length", 7, archive.writePictures());
        archive.ask(0, 0, 0);
        CHECKS.due("a question writes nothing", ' ', (char) archive.writtenByte(3));
        CHECKS.due("length with marks", 9, archive.writePictures());
        Texts.load(archive, "tiles 4;family a 9;family b 9;picture xy pledge 1 by a;");
        CHECKS.due("load writes nothing", 'p', (char) archive.writtenByte(0));
        CHECKS.due("a shorter one", 4, archive.writePictures());
        CHECKS.due("its first byte", 'x', (char) archive.writtenByte(0));
        CHECKS.outsideOne("a byte of the shorter one", 4, archive::writtenByte);
    }

    /** Spread makes the text longer than any that could be read. */
    private static void longestText() {
        StringBuilder text = new StringBuilder("tiles 4;");
        StringBuilder holders = new StringBuilder();
        for (char name = 'a'; name <= 'j'; name++) {
            String family = String.valueOf(name).repeat(8);
            text.append("family ").append(family).append(" 20;");
            holders.append(holders.length() == 0 ? "" : ",").append(family);
        }
        StringBuilder want = new StringBuilder();
        for (char name = 'a'; name <= 'h'; name++) {
            String picture = String.valueOf(name).repeat(8);
            text.append("picture ").append(picture).append(" pledge 10by aaaaaaaa;");
            want.append(want.length() == 0 ? "" : " ").append(picture).append(':').append(holders);
        }
        VillagePhotos archive = Texts.archive(text.toString());
        for (int family = 1; family < 10; family++) {
            archive.meet(0, family);
        }
        CHECKS.due("copies", 72, archive.spread());
        CHECKS.due("length", want.length(), archive.writePictures());
        for (int k = 0; k < want.length(); k += 2) {
            CHECKS.due("byte " + k, (int) want.charAt(k), archive.writtenByte(k));
        }
        CHECKS.isThrown("a byte behind them", IndexOutOfBoundsException.class, () -> archive.writtenByte(want.length()));
    }
}
