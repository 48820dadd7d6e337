/** The sentences of term 4 and of promises 1 to 4, 37 and 38: what is read and what is written. */
final class SentencesOfTexts {
    private static final int SYNTAX = VillagePhotos.SYNTAX_ERROR;
    private static final int VALUE = VillagePhotos.VALUE_ERROR;
    private static final int UNKNOWN = VillagePhotos.UNKNOWN;
    private static final int TWICE = VillagePhotos.TWICE;
    private static final int NO_ROOM = VillagePhotos.NO_ROOM;
    private static final int TOO_MANY = VillagePhotos.TOO_MANY;
    private static final String HEAD = "tiles 4;family a 2;family b 2;";

    private final Sentences s;
    private final Checks c;

    SentencesOfTexts(Sentences sentences) {
        s = sentences;
        c = sentences.checks;
    }

    void all() {
        grammar();
        wordsAndNumbers();
        syntaxErrors();
        otherErrors();
        told();
        newObject();
        append();
        load();
        errorPosition();
        writePictures();
        writtenByte();
    }

    private void grammar() {
        s.in("Term 4");
        s.edge("An archive is read from a text of at most 600 bytes:", () -> {
            String picture = "picture last pledge 1;";
            String text = HEAD + " ".repeat(600 - HEAD.length() - picture.length()) + picture;
            c.due("the 600th byte is read", "last:*", Texts.written(s.good(text)));
            s.error(SYNTAX, text.substring(0, 599), ":");
            VillagePhotos archive = new VillagePhotos();
            c.due("600 bytes", 600, Texts.append(archive, text));
            c.isThrown("a 601st", IllegalStateException.class, () -> archive.append(' ', 0, 0, 0, 0));
        });
        s.edge("Braces mean any number of repetitions, brackets that a part may lack, quoted parts stand for themselves.",
                () -> {
            VillagePhotos least = s.good(HEAD);
            c.due("no near", 0, least.count(10));
            c.due("no picture", 0, least.count(2));
            VillagePhotos none = s.good(HEAD + "picture p pledge 1;picture q pledge 1 by a by b spoiled 1;");
            c.due("no by", -1, none.copy(0, 0));
            c.due("no spoiled", 0, none.copy(1, 0));
            c.due("one tile", 2, none.copy(1, 1));
            VillagePhotos more = s.good("tiles 4;family a 2;family b 2;family c 2;near a b;near b c;near c a;"
                    + "picture p pledge 1 by a spoiled 3 by c spoiled 0 3 by b spoiled 3 2 1 0;");
            c.due("three near", 3, more.count(10));
            c.due("three by", 7, more.picture(0, 1));
            c.due("two tiles", 9, more.copy(0, 2));
            c.due("four tiles", 15, more.copy(0, 1));
            s.error(SYNTAX, "", "TILES 4;family a 2;family b 2;");
            s.error(SYNTAX, "", "siles 4;");
            s.error(SYNTAX, "tiles 4;", "gamily a 2;");
            s.error(SYNTAX, HEAD, "mear a b;");
            s.error(SYNTAX, HEAD, "qicture p pledge 1;");
            s.error(SYNTAX, HEAD + "picture p ", "qledge 1;");
            s.error(SYNTAX, HEAD + "picture p pledge 1 ", "cy a;");
            s.error(SYNTAX, HEAD + "picture p pledge 1 by a ", "tpoiled 0;");
            s.error(SYNTAX, HEAD + "picture p pledge 1 by a ", "spoiles 0;");
            s.error(SYNTAX, HEAD, ";");
            s.error(SYNTAX, HEAD + "near a b", ",");
        });
    }

    private void wordsAndNumbers() {
        s.edge("A word is the longest possible sequence of the letters a to z;", () -> {
            s.good("tiles 4;family az 1;family za 1;");
            s.error(SYNTAX, "tiles 4;", "familya 1;");
            s.error(SYNTAX, "tiles 4;family a 1;family b 1;", "neara b;");
            for (String beyond : new String[] {"`", "{", "A", "Z", "-", "_", "0x"}) {
                s.error(SYNTAX, "tiles 4;family ", beyond + " 1;family b 1;");
            }
            s.error(SYNTAX, "tiles 4;family z", "{ 1;");
            s.error(SYNTAX, "tiles 4;family a", "` 1;");
            s.error(SYNTAX, "tiles 4;family a ", "b 1;");
        });
        s.edge("a NAME is any word of at most 8 letters (also one that the grammar has;", () -> {
            VillagePhotos archive = s.good("tiles 4;family abcdefgh 1;family tiles 1;family family 1;family near 1;"
                    + "family picture 1;family pledge 1;family by 1;family spoiled 1;near near by;near spoiled near;"
                    + "picture tiles pledge 1;picture picture pledge 1 by by by spoiled by picture spoiled 1;"
                    + "picture zzzzzzzz pledge 1 by abcdefgh;");
            c.due("written", "tiles:* picture:picture,by,spoiled zzzzzzzz:abcdefgh", Texts.written(archive));
            c.due("neighbours of near", 192, archive.family(3, 6));
            c.due("a copy of the family picture", 2, archive.copy(1, 4));
        });
        s.edge("a longer one is a SYNTAX_ERROR);", () -> {
            s.error(SYNTAX, "tiles 4;family ", "abcdefghi 1;");
            s.error(SYNTAX, HEAD + "picture ", "ppppppppp pledge 1;");
            s.error(SYNTAX, HEAD + "near ", "abcdefghi a;");
            s.error(SYNTAX, HEAD + "near a ", "aaaaaaaaa;");
            s.error(SYNTAX, HEAD + "picture p pledge 1 by ", "aaaaaaaaaa;");
            s.error(SYNTAX, "tiles 4;family ", "a".repeat(500));
        });
        s.edge("N is the longest possible sequence of digits (zeros at its beginning do not matter).", () -> {
            VillagePhotos archive = s.good("tiles 016;family a 00000000000000000020;family b 01;"
                    + "picture p pledge 0010 by a spoiled 00 015 9;");
            c.due("tiles", 16, archive.count(0));
            c.due("room", 20, archive.family(0, 0));
            c.due("pledge", 10, archive.picture(0, 0));
            c.due("spoiled", 1 + 32768 + 512, archive.copy(0, 0));
            s.good("tiles " + "0".repeat(560) + "4;family a1;family b1;");
            s.error(SYNTAX, "tiles 4 ", "6;family a 1;family b 1;");
            for (String beyond : new String[] {"/", ":", "a", "."}) {
                s.error(SYNTAX, "tiles 4", beyond + "6;");
            }
            s.error(VALUE, "tiles ", "00;");
        });
        s.edge("Spaces (byte 32) may stand in front of every token and at the end of the text.", () -> {
            String[] tokens = {"tiles", "4", ";", "family", "a", "1", ";", "family", "b", "1", ";", "near", "a", "b", ";",
                "picture", "p", "pledge", "1", "by", "a", "spoiled", "0", "1", "by", "b", ";"};
            String spaced = "  " + String.join("  ", tokens) + "  ";
            VillagePhotos archive = s.good(spaced);
            c.due("with spaces", "p:a,b", Texts.written(archive));
            c.due("spoiled", 3, archive.copy(0, 0));
            s.good("tiles4;family a1;family b1;near a b;picture p pledge1by a spoiled0 1by b;");
            for (int at = 0; at < spaced.length(); at++) {
                if (spaced.charAt(at) == ' ') {
                    for (char other : new char[] {9, 10, 13, 31, 33, 160, 255}) {
                        s.error(SYNTAX, spaced.substring(0, at), other + spaced.substring(at + 1));
                    }
                }
            }
        });
        s.edge("spoiled tiles of a copy (0 to the number of tiles minus 1).", () -> {
            for (int tiles = 4; tiles <= 16; tiles++) {
                String text = "tiles " + tiles + ";family a 1;family b 1;picture p pledge 1 by b spoiled ";
                c.due("the first and the last", 1 | 1 << (tiles - 1),
                        s.good(text + "0 " + (tiles - 1) + ";").copy(0, 1));
                s.error(VALUE, text, tiles + ";");
                s.error(VALUE, text + "0 ", tiles + ";");
            }
        });
        s.plain("how many tiles");
        s.plain("the room of a family");
        s.plain("a pledge;");
        s.edge("All copies of a text are held.", () -> {
            VillagePhotos archive = s.good(HEAD + "picture p pledge 1 by a by b spoiled 0 1 2 3;");
            c.due("held, though wholly spoiled", 3, archive.picture(0, 1));
            c.due("broken", 0, archive.count(4));
        });
    }

    private void syntaxErrors() {
        s.edge("Reading stops at the first error.", () -> {
            s.error(VALUE, "tiles ", "3;family a 0;!");
            s.error(TWICE, "tiles 4;family a 1;family ", "a 99;");
            s.error(SYNTAX, HEAD, "!near a a;");
            s.error(UNKNOWN, HEAD + "near ", "x x;picture p pledge 11;");
            s.error(NO_ROOM, "tiles 4;family a 1;family b 1;picture p pledge 1 by a;picture q pledge 1 by ",
                    "a spoiled 9 by x!");
        });
        s.edge("If several error codes fit the same position, the first one in this list is reported:", () -> {
            s.error(SYNTAX, HEAD + "near ", "aaaaaaaaa b;");
            s.error(SYNTAX, HEAD + "near a b;", "family a 1;");
            s.error(VALUE, HEAD + "picture p pledge 1 by a spoiled 0 ", "4;");
            s.error(UNKNOWN, HEAD + "near a b;near a ", "c;");
            String full = "tiles 4;family a 1;family b 1;picture p pledge 1 by a";
            s.error(TWICE, full + " by ", "a;");
            s.error(NO_ROOM, full + ";picture q pledge 1 by ", "a;");
        });
        s.edge("a byte or token that is not allowed here (at its first byte)", () -> {
            s.error(SYNTAX, "  ", "tilesx 4;");
            s.error(SYNTAX, "tiles ", "four;");
            s.error(SYNTAX, "tiles 4 ", "family a 1;");
            s.error(SYNTAX, "tiles 4;", "near a b;");
            s.error(SYNTAX, "tiles 4;family a 1;", "picture p pledge 1;");
            s.error(SYNTAX, HEAD + "near a ", "4;");
            s.error(SYNTAX, HEAD + "picture p pledge 1;", "near a b;");
            s.error(SYNTAX, HEAD + "picture p pledge 1 by a spoiled ", ";");
            s.error(SYNTAX, HEAD + "picture p pledge 1 by a spoiled ", "by b;");
            s.error(SYNTAX, HEAD + "picture p ", "by a;");
            for (int sign = 1; sign < 256; sign++) {
                if (sign != ' ') {
                    s.error(SYNTAX, HEAD, Character.toString((char) sign) + ";");
                }
            }
        });
        s.edge("or an unexpected end of the text (at the length of the text)", () -> {
            String[] tokens = {"tiles", " 4", ";", "family", " a", " 1", ";", "family", " b", " 1", ";", "near", " a", " b",
                ";", "picture", " p", " pledge", " 1", " by", " a", " spoiled", " 0", " 1", ";"};
            StringBuilder text = new StringBuilder();
            for (int k = 0; k < tokens.length; k++) {
                // behind the second family, and behind each part that ends with a semicolon, all may end
                if (k == 11 || k == 15) {
                    s.good(text.toString());
                } else {
                    s.error(SYNTAX, text.toString(), "");
                    s.error(SYNTAX, text + "   ", "");
                }
                text.append(tokens[k]);
            }
            c.due("the whole text", 1, s.good(text.toString()).count(2));
            endBehindMore(text.toString(), tokens);
            for (String last : new String[] {"near", "near a", "near a b", "picture", "picture p", "picture p pledge",
                "picture p pledge 1", "picture p pledge 1 by", "picture p pledge 1 by a",
                "picture p pledge 1 by a spoiled", "picture p pledge 1 by a spoiled 0"}) {
                s.error(SYNTAX, HEAD + " ".repeat(600 - HEAD.length() - last.length()) + last, "");
            }
        });
    }

    /** An end is an end, also where the bytes of a longer text stood in the buffer before. */
    private void endBehindMore(String text, String[] tokens) {
        int end = 0;
        for (int k = 0; k < tokens.length; k++) {
            if (k != 11 && k != 15) {
                VillagePhotos archive = s.good(text);
                c.due("load of " + text.substring(0, end), SYNTAX, Texts.load(archive, text.substring(0, end)));
                c.due("position in " + text.substring(0, end), end, archive.errorPosition());
            }
            end += tokens[k].length();
        }
        VillagePhotos digits = s.good("tiles 4;family a 1;family b 17;");
        c.due("a number at the end", SYNTAX, Texts.load(digits, "tiles 4;family a 1;family b 1"));
        c.due("the position behind it", 29, digits.errorPosition());
    }

    private void otherErrors() {
        s.edge("a number out of its range (at its first digit).", () -> {
            String[] tiles = {"0", "3", "17", "0003", "00017", "2147483648", "4294967300", "18446744073709551620"};
            for (String wrong : tiles) {
                s.error(VALUE, "tiles ", wrong + ";family a 1;family b 1;");
            }
            for (String wrong : new String[] {"0", "21", "000", "0021", "4294967297", "99999999999999999999"}) {
                s.error(VALUE, "tiles 4;family a ", wrong + ";family b 1;");
                s.error(VALUE, "tiles 4;family a 1;family b ", wrong + ";");
            }
            for (String wrong : new String[] {"0", "11", "00", "0011", "4294967297", "99999999999999999999"}) {
                s.error(VALUE, HEAD + "picture p pledge ", wrong + ";");
            }
            for (String wrong : new String[] {"4", "04", "16", "4294967296", "18446744073709551616"}) {
                s.error(VALUE, HEAD + "picture p pledge 1 by a spoiled ", wrong + ";");
            }
            s.error(VALUE, "tiles ", "3");
            s.error(VALUE, "tiles     ", "17 !");
        });
        s.edge("a NAME behind \"near\" or \"by\" that no family has.", () -> {
            s.error(UNKNOWN, HEAD + "near ", "c a;");
            s.error(UNKNOWN, HEAD + "near a ", "c;");
            s.error(UNKNOWN, HEAD + "near ", "ab a;");
            s.error(UNKNOWN, HEAD + "near ", "near a;");
            s.error(UNKNOWN, HEAD + "picture p pledge 1 by ", "c;");
            s.error(UNKNOWN, HEAD + "picture p pledge 1 by ", "p;");
            s.error(UNKNOWN, HEAD + "picture p pledge 1 by a by ", "aa;");
            s.error(UNKNOWN, HEAD + "picture p pledge 1 by ", "by");
        });
    }

    private void told() {
        s.edge("the NAME of another family, of a family;", () -> {
            s.error(TWICE, "tiles 4;family a 1;family ", "a 1;");
            s.error(TWICE, HEAD + "family ", "a 1;");
            s.error(TWICE, HEAD + "family c 1;family ", "b");
            c.due("names that begin alike", 3, s.good("tiles 4;family a 1;family aa 1;family aaa 1;").count(1));
        });
        s.edge("the NAME of another picture, of a picture;", () -> {
            s.error(TWICE, HEAD + "picture p pledge 1;picture ", "p pledge 1;");
            s.error(TWICE, HEAD + "picture p pledge 1;picture q pledge 1;picture ", "p");
            c.due("the name of a family", 2, s.good(HEAD + "picture a pledge 1;picture b pledge 1 by b;").count(2));
        });
        s.edge("the second NAME of \"near\" if it is the first one, or if both are neighbours already;", () -> {
            s.error(TWICE, HEAD + "near a ", "a;");
            s.error(TWICE, HEAD + "near b ", "b;");
            s.error(TWICE, HEAD + "near a b;near a ", "b;");
            s.error(TWICE, HEAD + "near a b;near b ", "a;");
            c.due("other pairs of both", 3, s.good(HEAD + "family c 1;near a b;near c a;near b c;").count(10));
        });
        s.edge("a NAME behind \"by\" that this picture has already;", () -> {
            s.error(TWICE, HEAD + "picture p pledge 1 by a by ", "a;");
            s.error(TWICE, HEAD + "picture p pledge 1 by a spoiled 1 by b by ", "a spoiled 2;");
            c.due("that another one has", 2, s.good(HEAD + "picture p pledge 1 by a;picture q pledge 1 by a;").count(3));
        });
        s.edge("a spoiled tile that was told already for this copy.", () -> {
            s.error(TWICE, HEAD + "picture p pledge 1 by a spoiled 0 ", "0;");
            s.error(TWICE, HEAD + "picture p pledge 1 by a spoiled 3 1 2 ", "03;");
            s.error(TWICE, HEAD + "picture p pledge 1 by a spoiled 0 1 2 3 ", "0;");
            c.due("that was told for others", 2,
                    s.good(HEAD + "picture p pledge 1 by a spoiled 0 by b spoiled 0;").count(5));
        });
        s.edge("a NAME behind \"by\" of a family without room.", () -> {
            String start = "tiles 4;family a 1;family b 2;picture p pledge 1 by a by b;picture q pledge 1 by ";
            s.error(NO_ROOM, start, "a;");
            s.error(NO_ROOM, start + "b;picture r pledge 1 by ", "b;");
            s.error(NO_ROOM, start + "b by ", "a");
            c.due("the last place", 2, s.good(start + "b;").family(1, 1));
            c.due("room that is left", 0, s.good("tiles 4;family a 1;family b 1;picture p pledge 1;").count(3));
        });
        s.edge("an 11th family, a 13th picture (at the word family or picture, before anything behind it is read).", () -> {
            String ten = SentencesOfTerms.families(10);
            c.due("ten families", 10, s.good(ten).count(1));
            s.error(TOO_MANY, ten, "family k 1;");
            s.error(TOO_MANY, ten, "family a 99;");
            s.error(TOO_MANY, ten + "  ", "family !");
            s.error(TOO_MANY, ten, "family");
            s.error(SYNTAX, ten, "familyk");
            String twelve = ten + SentencesOfTerms.pictures(12);
            c.due("twelve pictures", 12, s.good(twelve).count(2));
            s.error(TOO_MANY, twelve, "picture x pledge 1;");
            s.error(TOO_MANY, twelve, "picture pa");
            s.error(TOO_MANY, twelve + "  ", "picture 7");
            s.error(TOO_MANY, twelve, "picture");
            s.error(SYNTAX, twelve, "pictures");
        });
    }

    private void newObject() {
        s.in("Promise 1");
        s.edge("Creates an archive as by the text \"tiles 4;family a 1;family b 1;\"", () -> {
            VillagePhotos read = s.good("tiles 4;family a 1;family b 1;");
            c.due("all that is seen", UndoTest.seen(read), UndoTest.seen(new VillagePhotos()));
            c.due("an 11th family behind eight that joined", -15, Checks.outcome(() -> {
                VillagePhotos archive = new VillagePhotos();
                for (int k = 0; k < 8; k++) {
                    archive.join(1);
                }
                return archive.join(1);
            }));
            c.isThrown("a picture", IndexOutOfBoundsException.class, () -> new VillagePhotos().picture(0, 0));
            c.isThrown("a third family", IndexOutOfBoundsException.class, () -> new VillagePhotos().family(2, 0));
            c.isThrown("undo", IllegalStateException.class, () -> new VillagePhotos().undo());
        });
        s.edge("with an empty text buffer", () -> {
            c.due("a first byte", 1, new VillagePhotos().append(0, 0, 0, 0, 1));
            VillagePhotos archive = new VillagePhotos();
            c.due("load of nothing", SYNTAX, archive.load());
            c.due("position of it", 0, archive.errorPosition());
        });
        s.edge("and nothing saved", () -> {
            c.isThrown("slot 0", IllegalStateException.class, () -> new VillagePhotos().restore(0));
            c.isThrown("slot 1", IllegalStateException.class, () -> new VillagePhotos().restore(1));
        });
    }

    private void append() {
        s.in("Promise 2");
        s.edge("Appends up to 20 bytes to the text buffer", () -> {
            VillagePhotos archive = new VillagePhotos();
            c.due("none", 0, archive.append(0, 0, 0, 0, 0));
            c.due("one", 1, archive.append(0, 0, 1, 0, 0));
            c.due("twenty", 21, archive.append(0x01010101, 0x01010101, 0x01010101, 0x01010101, 0x01010101));
        });
        s.edge("the four bytes of each argument in order, the most significant byte first;", () -> {
            String text = "tiles 4;family a 12;family bcdefgh 3;picture xyz pledge 1by a;";
            c.due("read in their order", "xyz:a", Texts.written(s.good(text)));
            VillagePhotos archive = new VillagePhotos();
            archive.append(0x74696c65, 0x73203136, 0x3b66616d, 0x696c7920, 0x6120343b);
            archive.append(0x66616d69, 0x6c792062, 0x2031373b, 0x3b3b3b3b, 0x3b3b3b3b);
            c.due("an error behind 33 bytes", SYNTAX, archive.load());
            c.due("position", 32, archive.errorPosition());
        });
        s.edge("bytes that are 0 are left out.", () -> {
            VillagePhotos archive = new VillagePhotos();
            c.due("the first, the last, between", 4, archive.append(0x00740069, 0, 0x6c000000, 0, 0x00000065));
            c.due("in a word", 8, archive.append(0x73003400, 0x003b0000, 0x00000020, 0, 0));
            c.due("bytes above 127 stay", 10, archive.append(0x80000000, 0, 0, 0, 0x000000ff));
            c.due("load", SYNTAX, archive.load());
            c.due("position of the byte 128", 8, archive.errorPosition());
        });
        s.edge("- `a`: first four bytes", () -> c.due("one argument", 4, new VillagePhotos().append(-1, 0, 0, 0, 0)));
        s.edge("- `b`: next four bytes", () -> c.due("one argument", 4, new VillagePhotos().append(0, -1, 0, 0, 0)));
        s.edge("- `c`: next four bytes", () -> c.due("one argument", 4, new VillagePhotos().append(0, 0, -1, 0, 0)));
        s.edge("- `d`: next four bytes", () -> c.due("one argument", 4, new VillagePhotos().append(0, 0, 0, -1, 0)));
        s.edge("- `e`: last four bytes", () -> c.due("one argument", 4, new VillagePhotos().append(0, 0, 0, 0, -1)));
        s.edge("Returns the new length of the buffer.", () -> {
            VillagePhotos archive = new VillagePhotos();
            for (int length = 20; length <= 600; length += 20) {
                c.due("length", length, archive.append(-1, -1, -1, -1, -1));
            }
            c.due("nothing more", 600, archive.append(0, 0, 0, 0, 0));
        });
        s.edge("Throws `IllegalStateException` if the length would exceed 600", () -> {
            VillagePhotos archive = new VillagePhotos();
            for (int length = 20; length <= 580; length += 20) {
                archive.append(-1, -1, -1, -1, -1);
            }
            c.due("585", 585, archive.append(-1, 0x00ff0000, 0, 0, 0));
            c.isThrown("16 more", IllegalStateException.class, () -> archive.append(-1, -1, -1, 0x00ffffff, 1));
            c.due("15 more", 600, archive.append(-1, -1, -1, 0x00ffffff, 0));
            c.isThrown("1 more", IllegalStateException.class, () -> archive.append(0, 0, 0, 0, 1));
            c.isThrown("20 more", IllegalStateException.class, () -> archive.append(-1, -1, -1, -1, -1));
            c.due("0 more", 600, archive.append(0, 0, 0, 0, 0));
            c.due("load", SYNTAX, archive.load());
            c.due("20 again", 20, archive.append(-1, -1, -1, -1, -1));
        });
    }

    private void load() {
        s.in("Promise 3");
        s.edge("Reads the whole text buffer as an archive.", () -> {
            VillagePhotos archive = new VillagePhotos();
            Texts.append(archive, "tiles 5;fam");
            Texts.append(archive, "ily a 1;family b 1;");
            c.due("a text in parts", 0, archive.load());
            c.due("tiles", 5, archive.count(0));
            s.error(SYNTAX, HEAD + " ".repeat(599 - HEAD.length()), "x");
        });
        s.edge("If the text has no error, it replaces the present one (no question was asked);", () -> {
            VillagePhotos archive = used();
            String text = "tiles 5;family x 3;family y 4;picture z pledge 2 by y;";
            c.due("load", 1, Texts.load(archive, text));
            c.due("as if it were the first", UndoTest.seen(s.good(text)), UndoTest.seen(archive));
            c.due("questions", 0, archive.count(8));
            c.due("repairs", 0, archive.count(9));
        });
        s.edge("in case of an error the present one stays.", () -> {
            for (String wrong : new String[] {"", "tiles 5;family x 3;family y 4;picture z pledge 2 by y", "tiles 3;"}) {
                VillagePhotos archive = used();
                String before = UndoTest.seen(archive);
                c.due("an error", true, Texts.load(archive, wrong) < 0);
                c.due("the present one", before, UndoTest.seen(archive));
            }
        });
        s.edge("The buffer is empty afterwards in both cases.", () -> {
            VillagePhotos archive = new VillagePhotos();
            Texts.load(archive, HEAD);
            c.due("behind a good text", 1, archive.append(1, 0, 0, 0, 0));
            archive.load();
            c.due("behind an error", 20, archive.append(-1, -1, -1, -1, -1));
            archive.load();
            c.due("load of the empty one", SYNTAX, archive.load());
            c.due("its position", 0, archive.errorPosition());
        });
        s.edge("Returns the number of pictures, or the error code.", () -> {
            VillagePhotos archive = new VillagePhotos();
            for (int pictures = 0; pictures <= 12; pictures++) {
                String text = HEAD + SentencesOfTerms.pictures(pictures);
                c.due("load", pictures, Texts.load(archive, text));
            }
            c.due("syntax", -2, Texts.load(archive, "x"));
            c.due("value", -3, Texts.load(archive, "tiles 3;"));
            c.due("unknown", -4, Texts.load(archive, HEAD + "near c a;"));
            c.due("twice", -5, Texts.load(archive, HEAD + "family a 1;"));
            c.due("no room", -6, Texts.load(archive, "tiles 4;family a 1;family b 1;"
                    + "picture p pledge 1 by a;picture q pledge 1 by a;"));
            c.due("too many", -7, Texts.load(archive, SentencesOfTerms.families(10) + "family k 1;"));
        });
    }

    /** An archive in which questions were asked and copies repaired. */
    private VillagePhotos used() {
        VillagePhotos archive = s.good(SetupTest.VILLAGE);
        archive.ask(0, 0, 0);
        archive.ask(0, 1, 3);
        archive.repair(0, 1);
        archive.ask(1, 3, 0);
        archive.wouldSpread();
        return archive;
    }

    private void errorPosition() {
        s.in("Promise 4");
        s.edge("Returns the position of the error that the latest call of load found.", () -> {
            VillagePhotos archive = new VillagePhotos();
            Texts.load(archive, "tiles 3;");
            c.due("the first", 6, archive.errorPosition());
            Texts.append(archive, "tiles 4;");
            c.due("append leaves it", 6, archive.errorPosition());
            archive.load();
            c.due("the second", 8, archive.errorPosition());
            archive.load();
            c.due("of nothing", 0, archive.errorPosition());
        });
        s.edge("NONE if it found no error or if there was no call.", () -> {
            VillagePhotos archive = new VillagePhotos();
            c.due("no call", -1, archive.errorPosition());
            Texts.append(archive, "x");
            c.due("append is none", -1, archive.errorPosition());
            archive.load();
            c.due("an error", 0, archive.errorPosition());
            Texts.load(archive, HEAD);
            c.due("no error", -1, archive.errorPosition());
        });
        s.plain("Returns the position;");
    }

    private void writePictures() {
        s.in("Promise 37");
        s.edge("Writes all pictures, in place of what was written before", () -> {
            VillagePhotos archive = s.good(HEAD + "picture p pledge 1 by a;picture q pledge 1 by b;");
            c.due("all", "p:a q:b", Texts.written(archive));
            Texts.load(archive, HEAD + "picture r pledge 1;");
            c.due("shorter", "r:*", Texts.written(archive));
            c.isThrown("a byte of what was before", IndexOutOfBoundsException.class, () -> archive.writtenByte(3));
            Texts.load(archive, HEAD);
            c.due("nothing", 0, archive.writePictures());
            c.isThrown("its first byte", IndexOutOfBoundsException.class, () -> archive.writtenByte(0));
        });
        s.edge("for each one its name, a colon, and the names of the families with a copy of it by their numbers", () -> {
            c.due("not as they were told", "p:a,b", Texts.written(s.good(HEAD + "picture p pledge 1 by b by a;")));
            c.due("no family", "p:*", Texts.written(s.good(HEAD + "picture p pledge 1;")));
            VillagePhotos hyphen = s.good(HEAD + "near a b;picture p pledge 3 by a;");
            hyphen.join(1);
            hyphen.meet(2, 0);
            hyphen.spread();
            c.due("one without a name", "p:a,b,-", Texts.written(hyphen));
            hyphen.leave(0);
            c.due("behind one that left", "p:b,-*", Texts.written(hyphen));
        });
        s.edge("separated by commas, with an exclamation mark behind that of a broken copy;", () -> {
            VillagePhotos archive = s.good("tiles 4;family aaaaaaaa 9;family b 9;family c 9;"
                    + "picture p pledge 1 by aaaaaaaa spoiled 0 by b by c spoiled 0;");
            c.due("spoiled ones have none", "p:aaaaaaaa,b,c", Texts.written(archive));
            archive.ask(0, 2, 0);
            c.due("the last", "p:aaaaaaaa,b,c!", Texts.written(archive));
            archive.ask(0, 0, 0);
            c.due("the first", "p:aaaaaaaa!,b,c!", Texts.written(archive));
        });
        s.edge("behind these an asterisk if the picture is in danger;", () -> {
            VillagePhotos archive = s.good(HEAD + "picture p pledge 2 by a by b spoiled 0;");
            c.due("truly in danger alone", "p:a,b", Texts.written(archive));
            archive.ask(0, 1, 0);
            c.due("behind a mark", "p:a,b!*", Texts.written(archive));
            archive.setPledge(0, 1);
            c.due("just as many as pledged", "p:a,b!", Texts.written(archive));
        });
        s.edge("pictures separated by spaces.", () -> {
            VillagePhotos archive = s.good(HEAD + "picture p pledge 1;picture q pledge 1 by a;picture zzzzzzzz pledge 1;");
            c.due("none at the end", "p:* q:a zzzzzzzz:*", Texts.written(archive));
        });
        s.edge("Returns the length of the text.", () -> {
            c.due("of none", 0, new VillagePhotos().writePictures());
            c.due("of one", 3, s.good(HEAD + "picture p pledge 1;").writePictures());
            StringBuilder text = new StringBuilder("tiles 4;");
            for (char name = 'a'; name <= 'j'; name++) {
                text.append("family ").append(String.valueOf(name).repeat(8)).append(" 9;");
            }
            for (char name = 'a'; name <= 'i'; name++) {
                text.append("picture ").append(name).append(" pledge 10by jjjjjjjj;");
            }
            VillagePhotos archive = s.good(text.toString());
            for (int family = 0; family < 9; family++) {
                archive.meet(family, 9);
            }
            c.due("of the danger", 9 * (2 + 8 + 1) + 8, archive.writePictures());
            c.due("copies", 81, archive.spread());
            c.due("of all", 9 * (2 + 80 + 9) + 8, archive.writePictures());
        });
        s.edge("the names of the families with a copy of it by their numbers, separated by commas, with an exclamation mark "
                + "behind that of a broken copy;", this::longestText);
    }

    /** Twelve pictures, each with ten broken copies; a text of 600 bytes has no room for longer names. */
    private void longestText() {
        StringBuilder text = new StringBuilder("tiles4;");
        for (char name = 'a'; name <= 'j'; name++) {
            text.append("family ").append(String.valueOf(name).repeat(8)).append("20;");
        }
        StringBuilder want = new StringBuilder();
        for (char name = 'a'; name <= 'l'; name++) {
            String picture = String.valueOf(name).repeat(name < 'f' ? 7 : 6);
            text.append("picture ").append(picture).append(" pledge9by aaaaaaaa;");
            want.append(want.length() == 0 ? "" : " ").append(picture).append(':');
            for (char family = 'a'; family <= 'j'; family++) {
                want.append(family == 'a' ? "" : ",").append(String.valueOf(family).repeat(8)).append('!');
            }
            want.append('*');
        }
        c.due("length of the text that is read", true, text.length() > 590);
        VillagePhotos archive = s.good(text.toString());
        for (int family = 1; family < 10; family++) {
            archive.meet(0, family);
        }
        for (int picture = 0; picture < 12; picture++) {
            archive.setPledge(picture, 10);
        }
        c.due("copies", 108, archive.spread());
        for (int family = 0; family < 10; family++) {
            archive.harm(family, 15);
        }
        c.due("broken copies", 120, archive.round(0));
        c.due("length", want.length(), archive.writePictures());
        // each third byte: all of them would be more calls than an object is used for
        for (int k = 0; k < want.length(); k += 3) {
            c.due("byte " + k, (int) want.charAt(k), archive.writtenByte(k));
        }
        c.due("the last byte", (int) '*', archive.writtenByte(want.length() - 1));
        c.isThrown("a byte behind the last", IndexOutOfBoundsException.class, () -> archive.writtenByte(want.length()));
    }

    private void writtenByte() {
        s.in("Promise 38");
        s.edge("Returns a byte of the text that was written last;", () -> {
            VillagePhotos archive = s.good(HEAD + "picture p pledge 3 by a spoiled 0 by b;");
            archive.writePictures();
            archive.ask(0, 0, 0);
            String last = "p:a,b*";
            for (int k = 0; k < last.length(); k++) {
                c.due("byte " + k, (int) last.charAt(k), archive.writtenByte(k));
            }
            archive.writePictures();
            c.due("the mark", (int) '!', archive.writtenByte(3));
        });
        s.edge("there is none at first.", () -> c.isThrown("byte 0", IndexOutOfBoundsException.class,
                () -> s.good(HEAD + "picture p pledge 1;").writtenByte(0)));
        s.edge("- `index`: 0 for the first byte", () -> {
            VillagePhotos archive = s.good(HEAD + "picture xy pledge 1;");
            archive.writePictures();
            c.due("the first", (int) 'x', archive.writtenByte(0));
            c.due("the last", (int) '*', archive.writtenByte(3));
        });
        s.edge("Throws `IndexOutOfBoundsException` if there is no such byte", () -> {
            VillagePhotos archive = s.good(HEAD + "picture p pledge 1;");
            c.outsideOne("at first", 0, archive::writtenByte);
            archive.writePictures();
            c.outsideOne("behind three bytes", 3, archive::writtenByte);
            Texts.load(archive, HEAD);
            archive.writePictures();
            c.outsideOne("of an empty text", 0, archive::writtenByte);
        });
    }
}
