/** Promises 3 and 4: what load reads, and where and how it stops. */
public final class ReadingTest {
    private static final String HEAD = "tiles 4;family a 2;family b 2;";
    private static final Checks CHECKS = new Checks();

    public static void main(String[] args) {
        goodTexts();
        largestTexts();
        replacing();
        syntaxErrors();
        everyEnd();
        everyEndOfTheBuffer();
        everyByte();
        valueErrors();
        unknownNames();
        toldTwice();
        withoutRoom();
        tooMany();
        CHECKS.end("ReadingTest");
    }

    private static void goodTexts() {
        good("tiles 4;family a 1;family b 1;", 0);
        good("tiles4;family a1;family b1;near a b;picture p pledge1by a spoiled0 1by b;", 1);
        good("  tiles  4  ;  family  a  1  ;family b 1 ; near  a  b ; picture  p  pledge 1 by  a spoiled 0  1 ;  ", 1);
        good("tiles 0000000000000000000016;family a 020;family b 001;picture p pledge 010;", 1);
        good("tiles 4;family family 1;family near 1;near near family;picture picture pledge 1 by near by family;", 1);
        good("tiles 4;family spoiled 1;family by 1;picture pledge pledge 1 by spoiled spoiled 3 by by;", 1);
        good("tiles 4;family abcdefgh 1;family zzzzzzzz 1;picture abcdefgh pledge 1;", 1);
        good(HEAD + "near b a;picture a pledge 10;picture b pledge 1;", 2);
        VillagePhotos archive = Texts.archive(HEAD + "picture p pledge 1 by b by a spoiled 3 1 0;");
        CHECKS.due("copy of b", 0, archive.copy(0, 1));
        CHECKS.due("copy of a", 11, archive.copy(0, 0));
    }

    private static void largestTexts() {
        StringBuilder text = new StringBuilder("tiles 16;");
        for (char name = 'a'; name <= 'j'; name++) {
            text.append("family ").append(name).append(" 20;");
        }
        for (char name = 'a'; name <= 'l'; name++) {
            text.append("picture ").append(name).append(" pledge 9;");
        }
        VillagePhotos archive = Texts.archive(text.toString());
        CHECKS.due("10 families", 10, archive.count(1));
        CHECKS.due("12 pictures", 12, archive.count(2));
        CHECKS.due("16 tiles", 16, archive.count(0));
        CHECKS.due("the last room", 20, archive.family(9, 0));
        CHECKS.due("the last pledge", 9, archive.picture(11, 0));
        while (text.length() < 600) {
            text.append(' ');
        }
        good(text.toString(), 12);
        bad("7 and spaces", text.substring(0, 599) + "7", VillagePhotos.SYNTAX_ERROR, 599);
        StringBuilder near = new StringBuilder(HEAD + "family c 1;family d 1;family e 1;");
        for (String pair : "ab ac ad ae bc bd be cd ce de".split(" ")) {
            near.append("near ").append(pair.charAt(1)).append(' ').append(pair.charAt(0)).append(';');
        }
        CHECKS.due("all pairs", 10, Texts.archive(near.toString()).count(10));
    }

    private static void replacing() {
        VillagePhotos archive = Texts.archive(SetupTest.VILLAGE);
        archive.ask(0, 1, 3);
        archive.ask(0, 0, 0);
        archive.repair(0, 1);
        archive.ask(0, 0, 1);
        archive.repair(0, 0);
        archive.ask(0, 0, 1);
        // what is tried out for an answer must not come into the next archive
        archive.lost();
        archive.wouldSpread();
        CHECKS.due("an error", VillagePhotos.VALUE_ERROR, Texts.load(archive, "tiles 4;family x 1;family y 0;"));
        CHECKS.due("the present one stays", "mill:anna,bo,carl lake:carl,dora* barn:*", Texts.written(archive));
        CHECKS.due("its questions stay", 3, archive.count(8));
        CHECKS.due("its repairs stay", 2, archive.count(9));
        archive.harm(0, 1);
        archive.ask(0, 0, 0);
        archive.wouldSpread();
        CHECKS.due("the buffer is empty behind an error", 1, archive.append(0, 0, 0, 0, ' '));
        CHECKS.due("a good text behind a space", 1, Texts.load(archive, HEAD + "picture p pledge 1 by a;"));
        CHECKS.due("it replaces", "p:a", Texts.written(archive));
        CHECKS.due("no question was asked", 0, archive.count(8));
        CHECKS.due("no repair was made", 0, archive.count(9));
        for (int family = 0; family < 2; family++) {
            CHECKS.due("no right answers", 0, archive.family(family, 3));
            CHECKS.due("no wrong answers", 0, archive.family(family, 4));
            CHECKS.due("copies", 1 - family, archive.family(family, 1));
            CHECKS.due("no broken copies", 0, archive.family(family, 2));
        }
        CHECKS.due("no spoiled tile", 0, archive.copy(0, 0));
        CHECKS.due("nobody with a broken copy", 0, archive.picture(0, 2));
        CHECKS.due("no neighbours", 0, archive.count(10));
        CHECKS.due("copies", 1, archive.count(3));
        CHECKS.due("the buffer is empty behind a good text", 1, archive.append(0, 0, 0, 0, ' '));
    }

    private static void syntaxErrors() {
        syntax("", "");
        syntax("   ", "");
        syntax("", "tile 4;");
        syntax("", "tilesx 4;");
        syntax("", "Tiles 4;");
        syntax("  ", "4;");
        syntax("", "piles 4;");
        syntax("tiles 4;", "gamily a 1;");
        syntax(HEAD, "dear a b;");
        syntax(HEAD, "victure p pledge 1;");
        syntax(HEAD + "picture p ", "sledge 1;");
        syntax(HEAD + "picture p pledge 1 ", "my a;");
        syntax("tiles ", "-4;");
        syntax("tiles ", "x;");
        syntax("tiles 4", ".;");
        syntax("tiles 4 ", "5;");
        syntax("tiles 4;", "family".substring(1));
        syntax("tiles 4;", "familya 1;");
        syntax("tiles 4;", "picture p pledge 1;");
        syntax("tiles 4;family a 1;", "");
        syntax("tiles 4;family a 1;", "near a a;");
        syntax("tiles 4;family ", "abcdefghi 1;");
        syntax("tiles 4;family ", "A 1;");
        syntax("tiles 4;family a", "B 1;");
        syntax("tiles 4;family a ", ";");
        syntax("tiles 4;family a 1 ", "2;");
        syntax(HEAD, ";");
        syntax(HEAD, "tiles 4;");
        syntax(HEAD, "nea a b;");
        syntax(HEAD + "near ", ";");
        syntax(HEAD + "near a ", ";");
        syntax(HEAD + "near ", "aaaaaaaaa b;");
        syntax(HEAD + "near a b ", "a;");
        syntax(HEAD + "near a b; ", "family c 1;");
        syntax(HEAD + "picture p pledge 1;", "near a b;");
        syntax(HEAD + "picture p pledge 1;", "family c 1;");
        syntax(HEAD + "picture ", "1 pledge 1;");
        syntax(HEAD + "picture ", "abcdefghi pledge 1;");
        syntax(HEAD + "picture p ", "1;");
        syntax(HEAD + "picture p ", "pledges 1;");
        syntax(HEAD + "picture p pledge ", "by a;");
        syntax(HEAD + "picture p pledge 1 ", "spoiled 1;");
        syntax(HEAD + "picture p pledge 1 ", "2;");
        syntax(HEAD + "picture p pledge 1 by ", ";");
        syntax(HEAD + "picture p pledge 1 by ", "aaaaaaaaa;");
        syntax(HEAD + "picture p pledge 1 by a ", "b;");
        syntax(HEAD + "picture p pledge 1 by a ", "1;");
        syntax(HEAD + "picture p pledge 1 by a spoiled ", ";");
        syntax(HEAD + "picture p pledge 1 by a spoiled ", "by b;");
        syntax(HEAD + "picture p pledge 1 by a spoiled 1 ", "spoiled 2;");
        syntax(HEAD + "picture p pledge 1 by a spoiled 1", ",2;");
        syntax(HEAD + "picture p pledge 1", ":");
        syntax(HEAD + "picture p pledge 1; ", "4");
    }

    /** Each beginning of a text that is none itself ends unexpectedly, at its length. */
    private static void everyEnd() {
        String text = HEAD + "near a b;picture p pledge 1 by a spoiled 0 by b;";
        for (int end = 0; end < text.length(); end++) {
            String part = text.substring(0, end);
            if (part.endsWith(";") && end >= HEAD.length()) {
                good(part, 0);
                continue;
            }
            int word = end;
            while (word > 0 && Character.isLetter(part.charAt(word - 1))) {
                word--;
            }
            boolean startOfKeyword = word < end
                    && text.substring(word).matches("(?s)(tiles|family|near|picture|pledge|by|spoiled)\\b.*")
                    && Character.isLetter(text.charAt(end));
            bad("the beginning", part, VillagePhotos.SYNTAX_ERROR, startOfKeyword ? word : end);
            // what an earlier text left behind the end of this one must not be read
            VillagePhotos archive = Texts.archive(text);
            CHECKS.due("behind the whole text: " + part, VillagePhotos.SYNTAX_ERROR, Texts.load(archive, part));
            CHECKS.due("position of it", startOfKeyword ? word : end, archive.errorPosition());
            if (!startOfKeyword) {
                bad("the beginning and spaces", part + "  ", VillagePhotos.SYNTAX_ERROR, end + 2);
            }
        }
    }

    /** Texts of 600 bytes that end within a token, or lack one. */
    private static void everyEndOfTheBuffer() {
        String picture = "picture p pledge 1 by a spoiled 0 1 by b spoiled 3";
        for (int end = 0; end <= picture.length(); end++) {
            String part = picture.substring(0, end);
            String text = HEAD + " ".repeat(600 - HEAD.length() - end) + part;
            VillagePhotos archive = new VillagePhotos();
            CHECKS.due("600 bytes up to " + part, end == 0 ? 0 : VillagePhotos.SYNTAX_ERROR,
                    Texts.load(archive, text));
            if (part.endsWith(" ") || part.matches(".*([0-9]|picture p|by [ab])")) {
                CHECKS.due("position of an end in " + part, 600, archive.errorPosition());
            }
        }
    }

    /** No byte but space, letters, digits and the semicolon is ever allowed. */
    private static void everyByte() {
        for (int sign = 1; sign < 256; sign++) {
            boolean digit = sign >= '0' && sign <= '9';
            boolean letter = sign >= 'a' && sign <= 'z';
            if (sign == ' ') {
                good(HEAD + (char) sign, 0);
            } else if (digit) {
                good("tiles " + "4;family a 1" + (char) sign + ";family b 1;", 0);
            } else if (letter) {
                good("tiles 4;family " + (char) sign + (char) sign + " 1;family b 1;", 0);
            } else {
                bad("byte " + sign, HEAD + (char) sign, VillagePhotos.SYNTAX_ERROR, HEAD.length());
                if (sign != ';') {
                    bad("byte " + sign + " in a name", "tiles 4;family a" + (char) sign + " 1;family b 1;",
                            VillagePhotos.SYNTAX_ERROR, 16);
                    bad("byte " + sign + " in a number", "tiles 4" + (char) sign + ";family a 1;family b 1;",
                            VillagePhotos.SYNTAX_ERROR, 7);
                }
            }
        }
    }

    private static void valueErrors() {
        for (String wrong : new String[] {"0", "3", "17", "000", "0017", "99999999999999999999", "4294967300"}) {
            value("tiles ", wrong + ";family a 1;");
        }
        for (String wrong : new String[] {"0", "21", "0000021", "18446744073709551617"}) {
            value("tiles 4;family a ", wrong + ";");
            value("tiles 4;family a 1;family b ", wrong + "");
        }
        for (String wrong : new String[] {"0", "11", "00011", "4294967297"}) {
            value(HEAD + "picture p pledge ", wrong + " by a;");
        }
        for (String wrong : new String[] {"4", "16", "004", "4294967296"}) {
            value(HEAD + "picture p pledge 1 by a spoiled ", wrong + ";");
            value(HEAD + "picture p pledge 1 by a spoiled 0 ", wrong + ";");
        }
        good("tiles 16;family a 1;family b 20;picture p pledge 10 by a spoiled 15 0;", 1);
        value("tiles 16;family a 1;family b 20;picture p pledge 10 by a spoiled 15 0 ", "16;");
        value("tiles ", "3 x");
    }

    private static void unknownNames() {
        unknown(HEAD + "near ", "c a;");
        unknown(HEAD + "near ", "c c;");
        unknown(HEAD + "near a ", "c;");
        unknown(HEAD + "near a ", "aa;");
        unknown(HEAD + "picture p pledge 1 by ", "c spoiled 1;");
        unknown(HEAD + "picture p pledge 1 by a by ", "c!");
        unknown(HEAD + "picture p pledge 1 by ", "p;");
        unknown(HEAD + "picture p pledge 1 by ", "spoiled 1;");
    }

    private static void toldTwice() {
        twice("tiles 4;family a 1;family ", "a 1;");
        twice("tiles 4;family a 1;family ", "a 99;");
        twice("tiles 4;family abcdefgh 1;family bcdefgh 1;family ", "abcdefgh !");
        twice(HEAD + "near a ", "a;");
        twice(HEAD + "near a b;near a ", "b;");
        twice(HEAD + "near a b;near b ", "a;");
        twice(HEAD + "picture p pledge 1;picture ", "p pledge 1;");
        twice(HEAD + "picture p pledge 1;picture q pledge 1;picture ", "p x");
        twice(HEAD + "picture p pledge 1 by a by ", "a;");
        twice("tiles 4;family a 1;family b 2;picture p pledge 1 by a by ", "a;");
        twice(HEAD + "picture p pledge 1 by a spoiled 0 1 ", "0;");
        twice(HEAD + "picture p pledge 1 by a spoiled 0 1 2 3 ", "03;");
        twice("tiles 16;family a 1;family b 1;picture p pledge 1 by a spoiled 0 1 2 3 4 5 6 7 8 9 10 11 12 13 14 15 ",
                "7;");
        good(HEAD + "picture a pledge 1 by a spoiled 0 by b spoiled 0;picture b pledge 1 by a spoiled 0;", 2);
    }

    private static void withoutRoom() {
        String start = "tiles 4;family a 1;family b 2;picture p pledge 1 by a by b;picture q pledge 1 by ";
        noRoom(start, "a;");
        noRoom(start, "a spoiled 9;");
        noRoom(start + "b;picture r pledge 1 by ", "b;");
        good(start + "b;", 2);
        noRoom(start + "b by ", "a;");
    }

    private static void tooMany() {
        StringBuilder text = new StringBuilder("tiles 4;");
        for (char name = 'a'; name <= 'j'; name++) {
            text.append("family ").append(name).append(" 1;");
        }
        good(text.toString(), 0);
        String families = text.toString();
        tooMuch(families, "family k 1;");
        tooMuch(families + " ", "family a 1;");
        tooMuch(families, "family");
        tooMuch(families, "family!");
        syntax(families, "familyx");
        for (char name = 'a'; name <= 'l'; name++) {
            text.append("picture ").append(name).append(" pledge 1;");
        }
        good(text.toString(), 12);
        String pictures = text.toString();
        tooMuch(pictures, "picture m pledge 1;");
        tooMuch(pictures + "  ", "picture a");
        tooMuch(pictures, "picture");
        syntax(pictures, "pictures");
        syntax(pictures, "family k 1;");
    }

    private static void good(String text, int pictures) {
        VillagePhotos archive = new VillagePhotos();
        CHECKS.due("load of " + text, pictures, Texts.load(archive, text));
        CHECKS.due("position of " + text, VillagePhotos.NONE, archive.errorPosition());
    }

    private static void bad(String name, String text, int code, int position) {
        VillagePhotos archive = new VillagePhotos();
        CHECKS.due(name + ": load of " + text, code, Texts.load(archive, text));
        CHECKS.due(name + ": position of " + text, position, archive.errorPosition());
        CHECKS.isThrown("undo behind it", IllegalStateException.class, archive::undo);
        CHECKS.due("tiles behind it", 4, archive.count(0));
        CHECKS.due("families behind it", 2, archive.count(1));
        CHECKS.due("pictures behind it", 0, archive.count(2));
    }

    private static void syntax(String before, String from) {
        bad("syntax", before + from, VillagePhotos.SYNTAX_ERROR, before.length());
    }

    private static void value(String before, String from) {
        bad("value", before + from, VillagePhotos.VALUE_ERROR, before.length());
    }

    private static void unknown(String before, String from) {
        bad("unknown", before + from, VillagePhotos.UNKNOWN, before.length());
    }

    private static void twice(String before, String from) {
        bad("twice", before + from, VillagePhotos.TWICE, before.length());
    }

    private static void noRoom(String before, String from) {
        bad("no room", before + from, VillagePhotos.NO_ROOM, before.length());
    }

    private static void tooMuch(String before, String from) {
        bad("too many", before + from, VillagePhotos.TOO_MANY, before.length());
    }
}
