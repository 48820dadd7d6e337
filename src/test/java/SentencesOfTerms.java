/** The sentences of terms 1 to 3: families, pictures and copies, questions, repairs. */
final class SentencesOfTerms {
    private static final int SYNTAX = VillagePhotos.SYNTAX_ERROR;
    private static final int VALUE = VillagePhotos.VALUE_ERROR;

    private final Sentences s;
    private final Checks c;

    SentencesOfTerms(Sentences sentences) {
        s = sentences;
        c = sentences.checks;
    }

    void all() {
        howLong();
        families();
        pictures();
        copies();
        questions();
        rounds();
        sources();
        waves();
        room();
        spreading();
        choosing();
    }

    /** "tiles 4;" and so many families a, b and so on, with rooms 1, 2 and so on. */
    static String families(int many) {
        StringBuilder text = new StringBuilder("tiles 4;");
        for (int k = 0; k < many; k++) {
            text.append("family ").append((char) ('a' + k)).append(' ').append(k + 1).append(';');
        }
        return text.toString();
    }

    /** So many pictures p, pa, pb and so on without copies, with pledges 1 to 10 and again from 1 on. */
    static String pictures(int many) {
        StringBuilder text = new StringBuilder();
        for (int k = 0; k < many; k++) {
            text.append("picture p").append((char) ('a' + k)).append(" pledge ").append(k % 10 + 1).append(';');
        }
        return text.toString();
    }

    private void howLong() {
        s.in("What it is");
        s.plain("An archive of a village's photographs");
        s.edge("An object is used for at most 512 calls after it has been made", () -> {
            StringBuilder text = new StringBuilder("tiles 16;");
            for (char name = 'a'; name <= 'j'; name++) {
                text.append("family ").append(name).append(" 20;");
            }
            for (char name = 'b'; name <= 'j'; name++) {
                text.append("near a ").append(name).append(';');
            }
            for (char name = 'a'; name <= 'l'; name++) {
                text.append("picture ").append(name).append(" pledge 10by a;");
            }
            VillagePhotos archive = s.good(text.toString());
            int calls = (text.length() + 19) / 20 + 2;
            c.due("copies that are made", 108, archive.spread());
            int rounds = 0;
            for (calls++; calls < 510; calls++) {
                archive.round(Integer.MAX_VALUE - calls);
                rounds++;
            }
            c.due("trust, as the 511th call", 100 * (12 * rounds + 1) / (12 * rounds + 2), archive.family(9, 5));
            c.due("questions, as the 512th call", 120 * rounds, archive.count(8));
        });
        s.plain("what later calls answer is free");
    }

    private void families() {
        s.in("Term 1");
        s.edge("There are 2 to 10 families, numbered from 0 as they are told", () -> {
            s.error(SYNTAX, families(0), "");
            s.error(SYNTAX, families(1), "");
            c.due("two families", 2, s.good(families(2)).count(1));
            VillagePhotos ten = s.good(families(10));
            c.due("ten families", 10, ten.count(1));
            for (int family = 0; family < 10; family++) {
                c.due("room of " + family, family + 1, ten.family(family, 0));
            }
            s.error(VillagePhotos.TOO_MANY, families(10), "family k 11;");
            c.due("an 11th one joins", -15, ten.join(1));
            c.due("one of two leaves", -17, s.good(families(2)).leave(1));
        });
        s.edge("each with a room (1 to 20: how many copies it can hold)", () -> {
            s.error(VALUE, "tiles 4;family a ", "0;family b 1;");
            s.error(VALUE, "tiles 4;family a 1;family b ", "21;");
            VillagePhotos archive = s.good("tiles 4;family a 1;family b 20;picture p pledge 1 by a by b;");
            c.due("a room of 1", 1, archive.family(0, 0));
            c.due("a room of 20", 20, archive.family(1, 0));
            c.due("copies in a room of 1", 1, archive.family(0, 1));
            s.error(VillagePhotos.NO_ROOM,
                    "tiles 4;family a 1;family b 20;picture p pledge 1 by a by b;picture q pledge 1 by b by ", "a;");
        });
        s.edge("Some pairs of families are neighbours (of each other).", () -> {
            VillagePhotos none = s.good(families(3));
            VillagePhotos one = s.good(families(3) + "near c a;");
            VillagePhotos all = s.good(families(3) + "near c a;near b c;near a b;");
            for (int family = 0; family < 3; family++) {
                c.due("no neighbour of " + family, 0, none.family(family, 6));
                c.due("one pair, " + family, new int[] {4, 0, 1}[family], one.family(family, 6));
                c.due("all pairs, " + family, 7 - (1 << family), all.family(family, 6));
            }
            c.due("no pair", 0, none.count(10));
            c.due("one pair", 1, one.count(10));
            c.due("all pairs", 3, all.count(10));
        });
    }

    private void pictures() {
        s.edge("Each picture has the same number of tiles (4 to 16), numbered from 0.", () -> {
            String rest = ";family a 9;family b 9;picture p pledge 1 by a;picture q pledge 1 by b;";
            s.error(VALUE, "tiles ", "3" + rest);
            s.error(VALUE, "tiles ", "17" + rest);
            for (int tiles : new int[] {4, 16}) {
                VillagePhotos archive = s.good("tiles " + tiles + rest);
                for (int number = 0; number < 2; number++) {
                    int picture = number;
                    c.due("tiles", tiles, archive.count(0));
                    c.due("the first tile", 1, archive.ask(picture, picture, 0));
                    c.due("the last tile", 1, archive.ask(picture, picture, tiles - 1));
                    c.outsideOne("tile", tiles, tile -> archive.ask(picture, picture, tile));
                }
            }
        });
        s.edge("There are at most 12 pictures, numbered from 0 as they are told", () -> {
            c.due("no picture", 0, s.good(families(2)).count(2));
            VillagePhotos twelve = s.good(families(2) + pictures(12));
            c.due("twelve pictures", 12, twelve.count(2));
            for (int picture = 0; picture < 12; picture++) {
                c.due("pledge of " + picture, picture % 10 + 1, twelve.picture(picture, 0));
            }
            s.error(VillagePhotos.TOO_MANY, families(2) + pictures(12), "picture x pledge 1;");
        });
        s.edge("each with a pledge (1 to 10: how many sound copies it should have)", () -> {
            s.error(VALUE, families(2) + "picture p pledge ", "0;");
            s.error(VALUE, families(2) + "picture p pledge ", "11;");
            VillagePhotos archive = s.good(families(2) + "picture p pledge 1;picture q pledge 10;");
            c.due("the least pledge", 1, archive.picture(0, 0));
            c.due("the greatest pledge", 10, archive.picture(1, 0));
        });
        s.edge("Of each picture a family holds at most one copy.", () -> {
            String text = "tiles 4;family a 9;family b 9;near a b;picture p pledge 10 by a spoiled 0 by b";
            s.error(VillagePhotos.TWICE, text + " by ", "a;");
            VillagePhotos archive = s.good(text + ";");
            c.due("no second copy is made", 0, archive.spread());
            archive.ask(0, 0, 0);
            c.due("nor beside a broken one", 0, archive.spread());
            c.due("copies", 2, archive.count(3));
        });
    }

    private void copies() {
        s.edge("A copy has a set of spoiled tiles.", () -> {
            VillagePhotos archive = s.good("tiles 16;family a 9;family b 9;picture p pledge 1 by a by b spoiled 0;"
                    + "picture q pledge 1 by a spoiled 15 by b spoiled 0 1 2 3 4 5 6 7 8 9 10 11 12 13 14 15;");
            c.due("none", 0, archive.copy(0, 0));
            c.due("the first", 1, archive.copy(0, 1));
            c.due("the last", 32768, archive.copy(1, 0));
            c.due("all", 65535, archive.copy(1, 1));
        });
        s.edge("It is held, or it is broken: a broken one is known to be bad.", () -> {
            VillagePhotos archive = s.good("tiles 4;family a 9;family b 9;picture p pledge 1 by a spoiled 3 by b;");
            c.due("held, though bad", 3, archive.picture(0, 1));
            c.due("not broken", 0, archive.picture(0, 2));
            archive.ask(0, 0, 3);
            c.due("held", 2, archive.picture(0, 1));
            c.due("broken", 1, archive.picture(0, 2));
        });
        s.edge("A held copy is sound if no tile of it is spoiled.", () -> {
            for (int tile : new int[] {0, 7, 15}) {
                VillagePhotos one = s.good("tiles 16;family a 9;family b 9;picture p pledge 1 by a spoiled " + tile
                        + " by b;");
                c.due("all but the one with one spoiled tile", 2, one.picture(0, 3));
                c.due("one is not sound", 1, one.count(5));
                one.ask(0, 0, tile);
                c.due("a broken one is none that is held and not sound", 0, one.count(5));
            }
        });
        s.edge("A picture is in danger if fewer of its copies are held than its pledge;", () -> {
            VillagePhotos archive = s.good("tiles 4;family a 9;family b 9;picture p pledge 1;"
                    + "picture q pledge 1 by a;picture r pledge 2 by a by b spoiled 0;picture s pledge 3 by a by b;");
            int[] want = {1, 0, 0, 1};
            for (int picture = 0; picture < 4; picture++) {
                c.due("danger of " + picture, want[picture], archive.picture(picture, 4));
            }
            c.due("pictures in danger", 2, archive.count(6));
            archive.ask(2, 1, 0);
            c.due("one of two is broken", 1, archive.picture(2, 4));
        });
        s.edge("it is truly in danger if fewer of its copies are held and sound than its pledge.", () -> {
            VillagePhotos archive = s.good("tiles 4;family a 9;family b 9;picture p pledge 1;"
                    + "picture q pledge 1 by a by b spoiled 0;picture r pledge 2 by a by b spoiled 3;"
                    + "picture s pledge 1 by a spoiled 1;picture t pledge 2 by a by b;");
            int[] want = {1, 0, 1, 1, 0};
            for (int picture = 0; picture < 5; picture++) {
                c.due("true danger of " + picture, want[picture], archive.picture(picture, 5));
            }
            c.due("pictures truly in danger", 3, archive.count(7));
            c.due("pictures in danger", 1, archive.count(6));
        });
    }

    private void questions() {
        s.in("Term 2");
        s.edge("A question is asked of a family about a tile of a held copy.", () -> {
            VillagePhotos archive = s.good("tiles 4;family a 9;family b 9;picture p pledge 1 by a spoiled 0;");
            c.due("of a held one", 0, archive.ask(0, 0, 0));
            c.due("of a broken one", -12, archive.ask(0, 0, 1));
            c.due("of none", -11, archive.ask(0, 1, 1));
            c.due("questions", 1, archive.count(8));
        });
        s.edge("The answer is right if this tile is not spoiled.", () -> {
            VillagePhotos archive = s.good("tiles 4;family a 9;family b 9;picture p pledge 1 by a spoiled 0 1 2"
                    + " by b spoiled 1 2 3;");
            c.due("the last tile", 1, archive.ask(0, 0, 3));
            c.due("the first tile", 1, archive.ask(0, 1, 0));
            c.due("both stay held", 3, archive.picture(0, 1));
        });
        s.edge("It is wrong otherwise: then the copy becomes broken.", () -> {
            VillagePhotos archive = s.good("tiles 4;family a 9;family b 9;picture p pledge 1 by a spoiled 3"
                    + " by b spoiled 0;");
            c.due("the last tile", 0, archive.ask(0, 0, 3));
            c.due("one is broken", 1, archive.picture(0, 2));
            c.due("the first tile", 0, archive.ask(0, 1, 0));
            c.due("both are broken", 3, archive.picture(0, 2));
        });
        s.edge("For each family it is counted how many answers were right and how many were wrong.", () -> {
            VillagePhotos archive = s.good("tiles 4;family a 9;family b 9;picture p pledge 1 by a spoiled 3 by b;");
            archive.ask(0, 0, 0);
            archive.ask(0, 0, 1);
            archive.ask(0, 0, 3);
            archive.ask(0, 0, 0);
            c.due("right ones", 2, archive.family(0, 3));
            c.due("wrong ones", 1, archive.family(0, 4));
            c.due("right ones of the other", 0, archive.family(1, 3));
            c.due("wrong ones of the other", 0, archive.family(1, 4));
        });
        s.edge("The trust of a family is 100 times (its right answers plus 1), divided by (all its answers plus 2), "
                + "rounded down.", () -> {
            VillagePhotos right = s.good("tiles 4;family a 9;family b 9;picture p pledge 1 by a;");
            int[] first = {50, 66, 75, 80, 83, 85, 87, 88, 90};
            for (int answers = 0; answers <= 98; answers++) {
                if (answers < first.length || answers >= 97) {
                    int want = answers < first.length ? first[answers] : answers == 97 ? 98 : 99;
                    c.due("trust behind right answers: " + answers, want, right.family(0, 5));
                }
                right.ask(0, 0, 3);
            }
            c.due("it never is 100", 99, right.family(0, 5));
            VillagePhotos wrong = s.good("tiles 4;family a 9;family b 9;near a b;"
                    + "picture p pledge 1 by a spoiled 0 by b spoiled 0;");
            for (int answers = 0; answers <= 99; answers++) {
                if (answers <= 3 || answers >= 98) {
                    int want = answers >= 98 ? 99 - answers : new int[] {50, 33, 25, 20}[answers];
                    c.due("trust behind wrong answers: " + answers, want, wrong.family(0, 5));
                }
                wrong.ask(0, 0, 0);
                wrong.repair(0, 0);
            }
        });
    }

    private void rounds() {
        s.edge("for each picture by its number, and for each family by its number that holds a held copy of it", () -> {
            // by x = 1 the tiles of a round are 6, 14, 1 and 11
            String text = "tiles 16;family a 9;family b 9;family c 9;picture p pledge 1 by c spoiled 14 by a spoiled 6;"
                    + "picture q pledge 1 by a spoiled 1 by b spoiled 11;";
            VillagePhotos archive = s.good(text);
            c.due("wrong answers", 4, archive.round(1));
            VillagePhotos other = s.good(text);
            other.ask(0, 0, 6);
            c.due("wrong answers, if the first is broken", 0, other.round(1));
            c.due("questions then", 4, other.count(8));
        });
        s.edge("x becomes (1103515245 times x plus 12345) modulo 2147483648", () -> {
            int[][] due = {{0, 0, 12}, {1, 6, 14}, {1073741824, 0, 12}, {2147483646, 3, 6}, {2147483647, 9, 9}};
            for (int[] row : due) {
                VillagePhotos archive = s.good("tiles 16;family a 9;family b 9;picture p pledge 1 by a spoiled "
                        + row[1] + " by b spoiled " + row[2] + ";");
                c.due("wrong answers by " + row[0], 2, archive.round(row[0]));
            }
        });
        s.edge("the family is asked about the tile (x / 65536, rounded down) modulo the number of tiles", () -> {
            int[][] due = {{4, 1}, {5, 4}, {7, 4}, {15, 14}, {16, 9}};
            for (int[] row : due) {
                String text = "tiles " + row[0] + ";family a 9;family b 9;picture p pledge 1 by a spoiled ";
                c.due("of " + row[0], 1, s.good(text + row[1] + ";").round(2147483647));
                c.due("by 0, of " + row[0], 1, s.good(text + "0;").round(0));
                c.due("by 0, of " + row[0] + ", the last", 0, s.good(text + (row[0] - 1) + ";").round(0));
            }
        });
    }

    private void sources() {
        s.in("Term 3");
        s.edge("The sources of a picture for a family are the families that are its neighbours and have a held copy",
                () -> {
            VillagePhotos archive = s.good("tiles 4;family a 9;family b 9;family c 9;family d 9;family e 9;"
                    + "near a b;near a c;near a d;picture p pledge 1 by a by b by c spoiled 0 by e;"
                    + "picture q pledge 1 by e;picture r pledge 1 by b by c by d;");
            c.due("before one is broken", 6, archive.sources(0, 0));
            archive.ask(0, 2, 0);
            c.due("no broken one, none without a copy, no stranger", 2, archive.sources(0, 0));
            c.due("none", 0, archive.sources(1, 0));
            c.due("all neighbours", 14, archive.sources(2, 0));
        });
        s.edge("those tiles are spoiled that are spoiled in the copies of all of its sources", () -> {
            VillagePhotos archive = s.good("tiles 4;family a 9;family b 9;family c 9;family d 9;"
                    + "near a b;near a c;near a d;picture p pledge 1 by b spoiled 0 1 by c spoiled 1 2 by d spoiled 1 3;"
                    + "picture q pledge 1 by b spoiled 0 1 by c spoiled 2 3;picture r pledge 1 by d spoiled 3;"
                    + "picture s pledge 1 by b spoiled 0 1 2 3 by c by d spoiled 0;"
                    + "picture t pledge 1 by b spoiled 0 1 2 3;");
            int[] want = {2, 0, 8, 0, 15};
            for (int picture = 0; picture < 5; picture++) {
                c.due("picture " + picture, want[picture], archive.wouldGet(picture, 0));
            }
        });
        s.edge("A broken copy can be repaired if there is a source.", () -> {
            VillagePhotos archive = s.good("tiles 4;family a 9;family b 9;picture p pledge 1 by a spoiled 0 by b;");
            archive.ask(0, 0, 0);
            c.due("no source", -14, archive.repair(0, 0));
            archive.meet(0, 1);
            c.due("one source", 1, archive.repair(0, 0));
        });
    }

    private void waves() {
        s.edge("all broken copies of all pictures that have a source are repaired at once", () -> {
            VillagePhotos archive = s.good("tiles 4;family a 9;family b 9;family c 9;near a b;"
                    + "picture p pledge 1 by a spoiled 0 by b by c spoiled 0;picture q pledge 1 by a by b spoiled 0;");
            archive.ask(0, 0, 0);
            archive.ask(0, 2, 0);
            archive.ask(1, 1, 0);
            c.due("of both pictures, but not of c", 2, archive.wave());
            c.due("one stays broken", 4, archive.picture(0, 2));
        });
        s.edge("by the sources as they were before the wave", () -> {
            String text = "picture p pledge 1 by a spoiled 0 by b spoiled 0 by c spoiled 0 by d spoiled 3;";
            VillagePhotos up = s.good("tiles 4;family a 9;family b 9;family c 9;family d 9;"
                    + "near a b;near b c;near c d;" + text);
            VillagePhotos down = s.good("tiles 4;family d 9;family c 9;family b 9;family a 9;"
                    + "near a b;near b c;near c d;" + text);
            for (VillagePhotos archive : new VillagePhotos[] {up, down}) {
                int step = archive == up ? 1 : -1;
                int a = archive == up ? 0 : 3;
                for (int k = 0; k < 3; k++) {
                    archive.ask(0, a + k * step, 0);
                }
                for (int k = 2; k >= 0; k--) {
                    c.due("one by one", 1, archive.wave());
                    c.due("the next one", 8, archive.copy(0, a + k * step));
                }
                c.due("no more", 0, archive.wave());
            }
        });
    }

    private void room() {
        s.edge("A family has room for a copy if it holds fewer copies (also broken ones count) than its room.", () -> {
            String text = "family b 1;near a b;picture p pledge 1 by a spoiled 0;picture q pledge 2 by b spoiled 0;";
            VillagePhotos one = s.good("tiles 4;family a 1;" + text);
            c.due("as many copies as room", 0, one.spread());
            one.ask(0, 0, 0);
            c.due("a broken one takes room, too", 0, one.spread());
            VillagePhotos two = s.good("tiles 4;family a 2;" + text);
            two.ask(0, 0, 0);
            c.due("one copy fewer than room", 1, two.spread());
            c.due("its copies", 2, two.family(0, 1));
            c.due("as many as its room", 2, two.family(0, 0));
        });
    }

    private void spreading() {
        s.edge("for each picture by its number, as long as it is in danger", () -> {
            String text = "tiles 4;family a 9;family b 9;family c 9;family d 9;near a b;near a c;near a d;";
            for (int pledge = 1; pledge <= 5; pledge++) {
                VillagePhotos archive = s.good(text + "picture p pledge " + pledge + " by a;");
                c.due("copies for pledge " + pledge, Math.min(pledge - 1, 3), archive.spread());
            }
            VillagePhotos full = s.good("tiles 4;family a 9;family b 1;near a b;"
                    + "picture p pledge 2 by a;picture q pledge 2 by a;");
            c.due("there is room for one", 1, full.spread());
            c.due("it is the first", 3, full.picture(0, 1));
            c.due("and not the second", 1, full.picture(1, 1));
        });
        s.edge("of all families without a copy of it", () -> {
            VillagePhotos archive = s.good("tiles 4;family a 9;family b 20;family c 9;near a b;near a c;"
                    + "picture p pledge 2 by a by b spoiled 0;");
            archive.ask(0, 1, 0);
            c.due("one copy", 1, archive.spread());
            c.due("not for the one with a broken copy", 5, archive.picture(0, 1));
        });
        s.edge("that have room and a source", () -> {
            VillagePhotos archive = s.good("tiles 4;family a 9;family b 1;family c 20;family d 2;near a b;near a d;"
                    + "picture p pledge 1 by b;picture q pledge 4 by a;");
            c.due("one copy", 1, archive.spread());
            c.due("not for b without room, nor for c without a source", 9, archive.picture(1, 1));
        });
        s.edge("(as all is then, with the copies that were just made)", () -> {
            VillagePhotos row = s.good("tiles 4;family a 9;family b 9;family c 9;family d 9;"
                    + "near a b;near b c;near c d;picture p pledge 4 by a;");
            c.due("new copies are sources", 3, row.spread());
            VillagePhotos rooms = s.good("tiles 4;family a 9;family b 3;family c 3;near a b;near a c;"
                    + "picture p pledge 2 by a;picture q pledge 2 by a;");
            c.due("two copies", 2, rooms.spread());
            c.due("the first", 3, rooms.picture(0, 1));
            c.due("new copies take room", 5, rooms.picture(1, 1));
        });
        s.edge("gets a copy by its sources", () -> {
            VillagePhotos archive = s.good("tiles 4;family a 9;family b 9;family c 9;near a b;near c b;"
                    + "picture p pledge 3 by a spoiled 0 1 by c spoiled 1 2;picture q pledge 2 by a spoiled 3;");
            c.due("two copies", 2, archive.spread());
            c.due("by two sources", 2, archive.copy(0, 1));
            c.due("by one source", 8, archive.copy(1, 1));
            c.due("they are held", 0, archive.count(4));
        });
        s.edge("if there is none such, the next picture follows.", () -> {
            VillagePhotos archive = s.good("tiles 4;family a 9;family b 9;near a b;picture p pledge 1;"
                    + "picture q pledge 3 by a by b;picture r pledge 2 by b;");
            c.due("one copy", 1, archive.spread());
            c.due("of the last picture", 3, archive.picture(2, 1));
            c.due("two pictures stay in danger", 2, archive.count(6));
        });
    }

    private void choosing() {
        s.edge("the one that has most room left", () -> {
            VillagePhotos archive = s.good("tiles 4;family a 9;family b 5;family c 3;family d 2;"
                    + "near a b;near a c;near a d;picture o pledge 1 by b;picture p pledge 1 by b;"
                    + "picture q pledge 1 by b;picture r pledge 2 by a;");
            c.due("one copy", 1, archive.spread());
            c.due("c has 3 left, b and d have 2", 5, archive.picture(3, 1));
        });
        s.edge("of several the one with the greater trust", () -> {
            String text = "tiles 4;family a 9;family b 5;family c 5;family d 4;near a b;near a c;near a d;"
                    + "picture o pledge 1 by b spoiled 0 by c by d;picture p pledge 2 by a;";
            VillagePhotos right = s.good(text);
            right.ask(0, 2, 0);
            right.ask(0, 3, 0);
            right.ask(0, 3, 0);
            c.due("one copy", 1, right.spread());
            c.due("c has a right answer, d has less room", 5, right.picture(1, 1));
            VillagePhotos wrong = s.good(text);
            wrong.ask(0, 1, 0);
            c.due("one copy", 1, wrong.spread());
            c.due("b has a wrong answer", 5, wrong.picture(1, 1));
        });
        s.edge("of several the lowest one", () -> {
            String text = "tiles 4;family a 9;family b 5;family c 5;near a b;near a c;"
                    + "picture o pledge 1 by b spoiled 0 by c;picture p pledge 2 by a;";
            VillagePhotos equal = s.good(text);
            c.due("one copy", 1, equal.spread());
            c.due("it is b's", 3, equal.picture(1, 1));
            VillagePhotos rounded = s.good(text);
            for (int k = 0; k < 14; k++) {
                rounded.ask(0, 1, 1);
            }
            rounded.ask(0, 1, 0);
            for (int k = 0; k < 7; k++) {
                rounded.ask(0, 2, 1);
            }
            c.due("trust of b, 1500 / 17", 88, rounded.family(1, 5));
            c.due("trust of c, 800 / 9", 88, rounded.family(2, 5));
            c.due("one copy", 1, rounded.spread());
            c.due("it is b's, too", 3, rounded.picture(1, 1));
        });
    }
}
