/** The sentences of promises 24 to 36: what changes an archive, what is refused, what is brought back. */
final class SentencesOfChanging {
    private static final String TWO = "tiles 4;family a 9;family b 9;";
    private static final String ROW = "tiles 4;family a 9;family b 9;family c 9;family d 9;"
            + "near a b;near b c;near c d;";
    private static final String NO_BOTH =
            "Throws `IndexOutOfBoundsException` if the picture or the family does not exist";
    private static final String NO_FAMILY = "Throws `IndexOutOfBoundsException` if the family does not exist";
    private static final int[] FAR = {Integer.MIN_VALUE, Integer.MAX_VALUE, -1, 256, 65537};

    private final Sentences s;
    private final Checks c;

    SentencesOfChanging(Sentences sentences) {
        s = sentences;
        c = sentences.checks;
    }

    void all() {
        ask();
        round();
        harm();
        harmRefused();
        repair();
        wave();
        spread();
        join();
        joinRefused();
        meet();
        leave();
        leaveRefused();
        setPledge();
        undo();
        save();
        restore();
        restoreRefused();
    }

    private void ask() {
        s.in("Promise 24");
        s.edge("Asks a question.", () -> {
            VillagePhotos archive = s.good(TWO + "picture p pledge 1 by a by b spoiled 2;");
            archive.ask(0, 0, 0);
            c.due("one was asked", 1, archive.count(8));
            archive.ask(0, 1, 2);
            c.due("two were asked", 2, archive.count(8));
        });
        s.edge("- `tile`: number of a tile", () -> {
            VillagePhotos archive = s.good("tiles 16;family a 9;family b 9;picture p pledge 1 by a spoiled 0"
                    + " by b spoiled 15;");
            c.due("the first, right", 1, archive.ask(0, 1, 0));
            c.due("the last, right", 1, archive.ask(0, 0, 15));
            c.due("the first, wrong", 0, archive.ask(0, 0, 0));
            c.due("the last, wrong", 0, archive.ask(0, 1, 15));
        });
        s.edge("Returns 1 if the answer is right, 0 if it is wrong;", () -> {
            VillagePhotos archive = s.good(TWO + "picture p pledge 1 by a spoiled 1 2 3;");
            c.due("right", 1, archive.ask(0, 0, 0));
            c.due("right again", 1, archive.ask(0, 0, 0));
            c.due("wrong", 0, archive.ask(0, 0, 1));
        });
        s.edge("-11 or -12 if it is refused.", () -> {
            VillagePhotos archive = s.good(TWO + "picture p pledge 1 by a spoiled 1;");
            archive.ask(0, 0, 1);
            String before = UndoTest.seen(archive);
            c.due("no copy", -11, archive.ask(0, 1, 0));
            c.due("a broken one", -12, archive.ask(0, 0, 0));
            c.due("a broken one, a spoiled tile", -12, archive.ask(0, 0, 1));
            c.due("nothing is changed", before, UndoTest.seen(archive));
        });
        s.edge("Throws `IndexOutOfBoundsException` if the picture, the family or the tile does not exist", () -> {
            VillagePhotos archive = s.good(TWO + "picture p pledge 1 by a spoiled 1;");
            c.outside("ask", archive, (picture, family) -> archive.ask(picture, family, 0));
            c.outsideOne("a tile of a held copy", 4, tile -> archive.ask(0, 0, tile));
            c.outsideOne("a tile of no copy", 4, tile -> archive.ask(0, 1, tile));
            archive.ask(0, 0, 1);
            c.outsideOne("a tile of a broken copy", 4, tile -> archive.ask(0, 0, tile));
            VillagePhotos most = s.good("tiles 16;family a 9;family b 9;picture p pledge 1 by a;");
            c.outsideOne("a tile of 16", 16, tile -> most.ask(0, 0, tile));
        });
    }

    private void round() {
        s.in("Promise 25");
        s.plain("Asks a round of questions.");
        s.edge("(A copy that becomes broken in it is not asked again in it.)", () -> {
            VillagePhotos archive = s.good("tiles 4;family a 9;family b 9;near a b;"
                    + "picture p pledge 1 by a spoiled 0 1 2 3 by b;picture q pledge 1 by a spoiled 0 1 2 3;");
            c.due("wrong answers", 2, archive.round(1));
            c.due("questions", 3, archive.count(8));
            c.due("wrong answers of a", 2, archive.family(0, 4));
            c.due("of what is held then", 0, archive.round(1));
            c.due("one question more", 4, archive.count(8));
        });
        s.edge("- `x`: 0 to 2147483647", () -> {
            String text = "tiles 16;family a 9;family b 9;picture p pledge 1 by a spoiled ";
            c.due("the least", 1, s.good(text + "0;").round(0));
            c.due("the greatest", 1, s.good(text + "9;").round(2147483647));
        });
        s.edge("Returns how many answers are wrong.", () -> {
            c.due("without copies", 0, new VillagePhotos().round(0));
            VillagePhotos sound = s.good(TWO + "picture p pledge 1 by a by b;");
            c.due("of sound ones", 0, sound.round(0));
            c.due("questions", 2, sound.count(8));
            sound.harm(0, 15);
            sound.harm(1, 15);
            c.due("of wholly spoiled ones", 2, sound.round(0));
            c.due("of broken ones", 0, sound.round(0));
            c.due("no more questions", 4, sound.count(8));
        });
        s.edge("Throws `IllegalArgumentException` if x is out of range", () -> {
            VillagePhotos archive = s.good(TWO + "picture p pledge 1 by a;");
            c.refusesNumbers("round", archive::round, -1, -2, -65536, Integer.MIN_VALUE + 1, Integer.MIN_VALUE);
            c.due("nothing was asked", 0, archive.count(8));
        });
    }

    private void harm() {
        s.in("Promise 26");
        s.edge("Harms all copies of a family (broken ones, too): some tiles of them are spoiled from now on (those that are "
                + "spoiled already stay so).", () -> {
            VillagePhotos archive = s.good(TWO + "picture p pledge 1 by a spoiled 0 by b;picture q pledge 1 by a by b;"
                    + "picture r pledge 1 by b;");
            archive.ask(0, 0, 0);
            archive.harm(0, 10);
            c.due("the broken one", 11, archive.copy(0, 0));
            c.due("it stays broken", 2, archive.why(0, 0));
            c.due("the held one", 10, archive.copy(1, 0));
            c.due("what is not there", -1, archive.copy(2, 0));
            for (int picture = 0; picture < 3; picture++) {
                c.due("the other family's", 0, archive.copy(picture, 1));
            }
            archive.harm(0, 3);
            c.due("again", 11, archive.copy(1, 0));
        });
        s.edge("- `tiles`: a set of bits, not empty, of tiles that exist", () -> {
            for (int tiles : new int[] {4, 5, 16}) {
                String text = "tiles " + tiles + ";family a 9;family b 9;picture p pledge 1 by a;";
                int all = (1 << tiles) - 1;
                for (int set : new int[] {1, 1 << (tiles - 1), all - 1, all}) {
                    VillagePhotos archive = s.good(text);
                    c.due("harm by " + set, 1, archive.harm(0, set));
                    c.due("spoiled by " + set, set, archive.copy(0, 0));
                }
            }
        });
        s.edge("Returns how many held copies were sound and are not any more.", () -> {
            VillagePhotos archive = s.good(TWO + "picture p pledge 1 by a;picture q pledge 1 by a spoiled 1;"
                    + "picture r pledge 1 by a;picture s pledge 1 by a spoiled 0;");
            archive.ask(3, 0, 0);
            c.due("two of four", 2, archive.harm(0, 2));
            c.due("none is sound", 0, archive.harm(0, 2));
            c.due("none by another tile", 0, archive.harm(0, 4));
            c.due("no copy", 0, archive.harm(1, 15));
        });
    }

    private void harmRefused() {
        s.edge(NO_FAMILY, () -> {
            VillagePhotos archive = s.good(TWO);
            c.outsideOne("harm", 2, family -> archive.harm(family, 1));
            c.outsideOne("harm without tiles", 2, family -> archive.harm(family, 0));
        });
        s.edge("Throws `IllegalArgumentException` if tiles is empty or has a tile that does not exist", () -> {
            for (int tiles : new int[] {4, 16}) {
                VillagePhotos archive = s.good("tiles " + tiles + ";family a 9;family b 9;picture p pledge 1 by a;");
                c.refusesNumbers("harm", set -> archive.harm(0, set), 0, 1 << tiles, (1 << tiles) + 1, -1, -16,
                        Integer.MIN_VALUE, Integer.MAX_VALUE, 1 << 30);
                c.due("nothing is harmed", 0, archive.copy(0, 0));
                c.refusesNumbers("harm without copies", set -> archive.harm(1, set), 0, 1 << tiles);
            }
        });
    }

    private void repair() {
        s.in("Promise 27");
        s.edge("Repairs a broken copy.", () -> {
            VillagePhotos archive = s.good(ROW + "picture p pledge 1 by a spoiled 1 by b spoiled 0 by c spoiled 0 1;"
                    + "picture q pledge 1 by a by b spoiled 0;");
            archive.ask(0, 1, 0);
            archive.ask(1, 1, 0);
            archive.repair(0, 1);
            c.due("held", 7, archive.picture(0, 1));
            c.due("spoiled", 2, archive.copy(0, 1));
            c.due("repairs", 1, archive.count(9));
            c.due("the other one stays broken", 2, archive.picture(1, 2));
        });
        s.edge("Returns how many sources there were;", () -> {
            StringBuilder text = new StringBuilder(SentencesOfTerms.families(10));
            for (char name = 'b'; name <= 'j'; name++) {
                text.append("near a ").append(name).append(';');
            }
            text.append("picture p pledge 1 by a spoiled 0");
            for (char name = 'b'; name <= 'j'; name++) {
                text.append(" by ").append(name);
            }
            VillagePhotos archive = s.good(text + ";");
            archive.ask(0, 0, 0);
            c.due("nine", 9, archive.repair(0, 0));
            VillagePhotos one = s.good(ROW + "picture p pledge 1 by a spoiled 0 by b;");
            one.ask(0, 0, 0);
            c.due("one", 1, one.repair(0, 0));
        });
        s.edge("-11, -13 or -14 if it is refused.", () -> {
            VillagePhotos archive = s.good(ROW + "picture p pledge 1 by a spoiled 0 by d;picture q pledge 1 by a by b;");
            archive.ask(0, 0, 0);
            String before = UndoTest.seen(archive);
            c.due("no copy, nor a source", -11, archive.repair(0, 1));
            c.due("no copy, but a source", -11, archive.repair(1, 2));
            c.due("held, without a source", -13, archive.repair(0, 3));
            c.due("held, with a source", -13, archive.repair(1, 0));
            c.due("broken, without a source", -14, archive.repair(0, 0));
            c.due("nothing is changed", before, UndoTest.seen(archive));
        });
        s.edge(NO_BOTH, () -> {
            VillagePhotos archive = s.good(TWO + "picture p pledge 1 by a;");
            c.outside("repair", archive, archive::repair);
            c.outsideOne("repair of no picture", 0, picture -> new VillagePhotos().repair(picture, 0));
        });
    }

    private void wave() {
        s.in("Promise 28");
        s.edge("Makes a wave of repairs.", () -> {
            VillagePhotos archive = s.good(ROW + "picture p pledge 1 by a by b spoiled 0 by c spoiled 0;");
            archive.ask(0, 1, 0);
            archive.ask(0, 2, 0);
            archive.wave();
            c.due("one wave, not all", 3, archive.picture(0, 1));
            c.due("broken", 4, archive.picture(0, 2));
            c.due("repairs", 1, archive.count(9));
        });
        s.edge("Returns how many copies were repaired.", () -> {
            c.due("without pictures", 0, new VillagePhotos().wave());
            VillagePhotos archive = s.good(ROW + "picture p pledge 1 by a spoiled 0 by b by c spoiled 0;"
                    + "picture q pledge 1 by c by d spoiled 0;picture r pledge 1 by d spoiled 0;");
            c.due("none is broken", 0, archive.wave());
            archive.ask(2, 3, 0);
            c.due("none has a source", 0, archive.wave());
            archive.ask(0, 0, 0);
            archive.ask(0, 2, 0);
            archive.ask(1, 3, 0);
            c.due("three of four", 3, archive.wave());
            c.due("repairs", 3, archive.count(9));
        });
    }

    private void spread() {
        s.in("Promise 29");
        s.edge("Spreads the pictures.", () -> {
            VillagePhotos archive = s.good(ROW + "picture p pledge 2 by a spoiled 2;picture q pledge 3 by d;");
            c.due("as many as it would", archive.wouldSpread(), archive.spread());
            c.due("p", 3, archive.picture(0, 1));
            c.due("its new copy", 4, archive.copy(0, 1));
            c.due("q", 14, archive.picture(1, 1));
            c.due("nothing is left to spread", 0, archive.wouldSpread());
        });
        s.edge("Returns how many copies were made.", () -> {
            c.due("without pictures", 0, new VillagePhotos().spread());
            c.due("none in danger", 0, s.good(ROW + "picture p pledge 1 by a;").spread());
            c.due("no copy", 0, s.good(ROW + "picture p pledge 9;").spread());
            VillagePhotos archive = s.good(ROW + "picture p pledge 10 by a;picture q pledge 10 by d;");
            c.due("three of both", 6, archive.spread());
            c.due("copies", 8, archive.count(3));
        });
    }

    private void join() {
        s.in("Promise 30");
        s.edge("A new family joins, without a name (it is written as a hyphen), without copies and neighbours, with no "
                + "answers.", () -> {
            VillagePhotos archive = s.good("tiles 4;family a 9;family b 9;family c 9;near b c;near c a;"
                    + "picture p pledge 3 by a by c spoiled 0;");
            archive.ask(0, 2, 0);
            archive.leave(2);
            archive.join(7);
            int[] want = {7, 0, 0, 0, 0, 50, 0};
            for (int what = 0; what < want.length; what++) {
                c.due("family 2, " + what, want[what], archive.family(2, what));
            }
            c.due("no copy", -1, archive.copy(0, 2));
            archive.join(8);
            archive.meet(0, 2);
            archive.meet(0, 3);
            archive.spread();
            c.due("two hyphens", "p:a,-,-", Texts.written(archive));
        });
        s.edge("- `room`: 1 to 20", () -> {
            VillagePhotos archive = new VillagePhotos();
            archive.join(1);
            archive.join(20);
            c.due("the least", 1, archive.family(2, 0));
            c.due("the greatest", 20, archive.family(3, 0));
        });
        s.edge("Returns its number;", () -> {
            VillagePhotos archive = new VillagePhotos();
            for (int family = 2; family < 10; family++) {
                c.due("number", family, archive.join(1));
            }
            archive.leave(0);
            c.due("behind one that left", 9, archive.join(1));
        });
    }
    private void joinRefused() {
        s.edge("-15 if it is refused.", () -> {
            VillagePhotos archive = s.good(SentencesOfTerms.families(9));
            c.due("the tenth", 9, archive.join(1));
            String before = UndoTest.seen(archive);
            c.due("an 11th", -15, archive.join(1));
            c.due("an 11th with the greatest room", -15, archive.join(20));
            c.due("nothing is changed", before, UndoTest.seen(archive));
            archive.leave(9);
            c.due("the tenth again", 9, archive.join(1));
        });
        s.edge("Throws `IllegalArgumentException` if room is out of range", () -> {
            for (VillagePhotos archive : new VillagePhotos[] {s.good(TWO), s.good(SentencesOfTerms.families(10))}) {
                c.refusesNumbers("join", archive::join, 0, 21, 22);
                c.refusesNumbers("join", archive::join, FAR);
            }
        });
    }

    private void meet() {
        s.in("Promise 31");
        s.edge("Two families become neighbours.", () -> {
            VillagePhotos archive = s.good(SentencesOfTerms.families(10));
            archive.meet(9, 0);
            c.due("neighbours of the last", 1, archive.family(9, 6));
            c.due("neighbours of the first", 512, archive.family(0, 6));
            c.due("neighbours of another", 0, archive.family(5, 6));
        });
        s.edge("- `other`: number of another family", () -> {
            VillagePhotos archive = s.good(TWO);
            c.due("the other one", 1, archive.meet(1, 0));
            c.isThrown("the same one", IllegalArgumentException.class, () -> archive.meet(1, 1));
        });
        s.edge("Returns how many pairs of neighbours there are then;", () -> {
            VillagePhotos archive = s.good(SentencesOfTerms.families(10));
            int pairs = 0;
            for (int one = 0; one < 10; one++) {
                for (int other = 0; other < one; other++) {
                    pairs++;
                    c.due("pairs", pairs, archive.meet(one, other));
                }
            }
            c.due("all pairs", 45, archive.count(10));
        });
        s.edge("-16 if it is refused.", () -> {
            VillagePhotos archive = s.good(TWO + "family c 9;near b a;");
            c.due("as it was told", -16, archive.meet(1, 0));
            c.due("the other way round", -16, archive.meet(0, 1));
            c.due("a new pair", 2, archive.meet(0, 2));
            c.due("the new pair again", -16, archive.meet(2, 0));
            c.due("pairs", 2, archive.count(10));
        });
        s.edge("Throws `IndexOutOfBoundsException` if one of the families does not exist", () -> {
            VillagePhotos archive = s.good(TWO);
            c.outsideOne("the one", 2, one -> archive.meet(one, 0));
            c.outsideOne("the other", 2, other -> archive.meet(0, other));
            c.outsideOne("both, and the same", 2, one -> archive.meet(one, one));
        });
        s.edge("Throws `IllegalArgumentException` if both are the same", () -> {
            VillagePhotos archive = s.good(TWO + "near a b;");
            c.refusesNumbers("meet", one -> archive.meet(one, one), 0, 1);
        });
    }

    private void leave() {
        s.in("Promise 32");
        s.edge("A family leaves, with its copies;", () -> {
            VillagePhotos archive = s.good(ROW + "picture p pledge 1 by a by b spoiled 0;picture q pledge 1 by b;");
            archive.ask(0, 1, 0);
            archive.leave(1);
            c.due("families", 3, archive.count(1));
            c.due("copies", 1, archive.count(3));
            c.due("broken ones", 0, archive.count(4));
            c.due("pairs", 1, archive.count(10));
            c.due("pictures stay", "p:a q:*", Texts.written(archive));
            c.due("questions stay", 1, archive.count(8));
        });
        s.edge("families behind it have one number less.", () -> {
            for (int gone = 0; gone < 4; gone++) {
                VillagePhotos archive = s.good("tiles 4;family a 2;family b 3;family c 4;family d 5;"
                        + "near a b;near a c;near a d;near b c;near b d;near c d;"
                        + "picture p pledge 1 by a spoiled 0 by b spoiled 1 by c spoiled 2 by d spoiled 3;"
                        + "picture q pledge 1 by a spoiled 0 by b spoiled 1 by c spoiled 2 by d spoiled 3;");
                for (int family = 0; family < 4; family++) {
                    archive.ask(1, family, family);
                    for (int k = 0; k < family; k++) {
                        archive.ask(0, family, (family + 1) % 4);
                    }
                }
                c.due("copies", 2, archive.leave(gone));
                for (int family = 0; family < 3; family++) {
                    int before = family < gone ? family : family + 1;
                    int[] want = {before + 2, 2, 1, before, 1, 100 * (before + 1) / (before + 3), 7 - (1 << family)};
                    for (int what = 0; what < want.length; what++) {
                        c.due("family " + family + ", " + what, want[what], archive.family(family, what));
                    }
                    c.due("held copy of " + family, 1 << before, archive.copy(0, family));
                    c.due("broken copy of " + family, 1 << before, archive.copy(1, family));
                }
                c.due("held", 7, archive.picture(0, 1));
                c.due("broken", 7, archive.picture(1, 2));
                String names = "abcd".replace(String.valueOf((char) ('a' + gone)), "");
                c.due("names", "p:" + String.join(",", names.split("")) + " q:" + String.join("!,", names.split(""))
                        + "!*", Texts.written(archive));
                c.isThrown("the last number", IndexOutOfBoundsException.class, () -> archive.family(3, 0));
            }
        });
        s.edge("Returns how many copies went;", () -> {
            VillagePhotos archive = s.good("tiles 4;family a 20;family b 9;family c 9;family d 9;"
                    + "picture p pledge 1 by a spoiled 0 by b;picture q pledge 1 by a by d spoiled 1;");
            archive.ask(0, 0, 0);
            archive.ask(1, 3, 1);
            c.due("none", 0, archive.leave(2));
            c.due("a broken one", 1, archive.leave(2));
            archive.join(1);
            c.due("a held and a broken one", 2, archive.leave(0));
        });
    }

    private void leaveRefused() {
        s.edge("-17 if it is refused.", () -> {
            VillagePhotos archive = s.good("tiles 4;family a 9;family b 9;family c 9;near a b;"
                    + "picture p pledge 1 by a by b;");
            c.due("one of three", 0, archive.leave(2));
            String before = UndoTest.seen(archive);
            c.due("the first of two", -17, archive.leave(0));
            c.due("the last of two", -17, archive.leave(1));
            c.due("nothing is changed", before, UndoTest.seen(archive));
            archive.join(1);
            c.due("one of three again", 1, archive.leave(0));
        });
        s.edge(NO_FAMILY, () -> {
            for (int families : new int[] {2, 3, 10}) {
                VillagePhotos archive = s.good(SentencesOfTerms.families(families));
                c.outsideOne("leave", families, archive::leave);
            }
        });
    }

    private void setPledge() {
        s.in("Promise 33");
        s.edge("Sets the pledge of a picture.", () -> {
            VillagePhotos archive = s.good(TWO + "picture p pledge 2 by a by b;picture q pledge 2 by a by b;");
            archive.setPledge(0, 3);
            c.due("the new one", 3, archive.picture(0, 0));
            c.due("in danger", 1, archive.picture(0, 4));
            c.due("the other one", 2, archive.picture(1, 0));
            archive.setPledge(0, 2);
            c.due("not in danger", 0, archive.picture(0, 4));
        });
        s.edge("- `pledge`: 1 to 10", () -> {
            VillagePhotos archive = s.good(TWO + "picture p pledge 2;");
            for (int pledge = 1; pledge <= 10; pledge++) {
                archive.setPledge(0, pledge);
                c.due("pledge", pledge, archive.picture(0, 0));
            }
        });
        s.edge("Returns the pledge before.", () -> {
            VillagePhotos archive = s.good(TWO + "picture p pledge 10;");
            c.due("of the text", 10, archive.setPledge(0, 1));
            c.due("the one that was set", 1, archive.setPledge(0, 1));
            c.due("the same", 1, archive.setPledge(0, 10));
        });
        s.edge("Throws `IndexOutOfBoundsException` if the picture does not exist", () -> {
            VillagePhotos archive = s.good(TWO + SentencesOfTerms.pictures(12));
            c.outsideOne("setPledge", 12, picture -> archive.setPledge(picture, 1));
            c.outsideOne("setPledge to 0", 12, picture -> archive.setPledge(picture, 0));
            c.outsideOne("setPledge of none", 0, picture -> new VillagePhotos().setPledge(picture, 1));
        });
        s.edge("Throws `IllegalArgumentException` if pledge is out of range", () -> {
            VillagePhotos archive = s.good(TWO + "picture p pledge 2;");
            c.refusesNumbers("setPledge", pledge -> archive.setPledge(0, pledge), 0, 11, 12);
            c.refusesNumbers("setPledge", pledge -> archive.setPledge(0, pledge), FAR);
            c.due("the pledge stays", 2, archive.picture(0, 0));
        });
    }

    private void undo() {
        s.in("Promise 34");
        s.edge("Undoes the latest change that has not been undone.", () -> {
            VillagePhotos archive = new VillagePhotos();
            archive.join(1);
            archive.join(2);
            archive.undo();
            archive.join(3);
            archive.join(4);
            archive.undo();
            archive.undo();
            c.due("what was undone is not undone again", 3, archive.count(1));
            c.due("the first change stays", 1, archive.family(2, 0));
            archive.undo();
            c.due("it is undone, too", 2, archive.count(1));
        });
        s.edge("Returns the number of changes that can still be undone.", () -> {
            VillagePhotos archive = s.good(TWO + "picture p pledge 1;");
            for (int changes = 1; changes <= 12; changes++) {
                int left = Math.min(changes, 8) - 1;
                c.due("behind " + changes + " changes", left, archive.undo());
                if (changes == 1) {
                    Texts.load(archive, TWO + "picture p pledge 1;");
                } else {
                    archive.setPledge(0, 1);
                }
                // two more, one of which takes the place of the one that was undone
                archive.setPledge(0, 2);
            }
        });
        s.edge("Throws `IllegalStateException` if there is no change to undo", () -> {
            VillagePhotos archive = new VillagePhotos();
            c.isThrown("at first", IllegalStateException.class, archive::undo);
            Texts.load(archive, "tiles 3;");
            c.isThrown("behind an error", IllegalStateException.class, archive::undo);
            archive.join(1);
            c.due("a change", 0, archive.undo());
            c.isThrown("behind the last one", IllegalStateException.class, archive::undo);
            for (int family = 2; family < 10; family++) {
                archive.join(1);
            }
            archive.leave(0);
            for (int left = 7; left >= 0; left--) {
                c.due("left", left, archive.undo());
            }
            c.isThrown("behind eight", IllegalStateException.class, archive::undo);
            c.due("the first of nine changes stays", 3, archive.count(1));
        });
    }

    private void save() {
        s.in("Promise 35");
        s.edge("Saves everything that undo brings back, but not what can be undone, in place of what was saved there.", () -> {
            VillagePhotos archive = s.good(ROW + "picture p pledge 2 by a spoiled 0 by b;picture q pledge 3 by c;");
            archive.save(0);
            archive.ask(0, 0, 0);
            archive.repair(0, 0);
            archive.ask(0, 1, 2);
            archive.join(4);
            archive.harm(1, 5);
            String saved = UndoTest.seen(archive);
            archive.save(0);
            for (int k = 0; k < 6; k++) {
                archive.undo();
            }
            c.due("save is no change", 2, archive.count(1));
            c.due("families then", 5, archive.restore(0));
            c.due("as it was saved", saved, UndoTest.seen(archive));
            c.due("restore is the only change to undo", 0, archive.undo());
        });
        s.edge("- `slot`: 0 or 1", () -> {
            VillagePhotos archive = new VillagePhotos();
            archive.save(0);
            archive.join(1);
            archive.save(1);
            c.due("slot 0", 2, archive.restore(0));
            c.due("slot 1", 3, archive.restore(1));
        });
        s.edge("Throws `IndexOutOfBoundsException` if there is no such slot", () -> {
            VillagePhotos archive = new VillagePhotos();
            c.outsideOne("save", 2, slot -> {
                archive.save(slot);
                return 0;
            });
            c.isThrown("nothing is saved", IllegalStateException.class, () -> archive.restore(0));
            c.isThrown("nothing is saved", IllegalStateException.class, () -> archive.restore(1));
        });
    }

    private void restore() {
        s.in("Promise 36");
        s.edge("Brings back what was saved, which stays saved.", () -> {
            VillagePhotos archive = s.good(ROW + "picture p pledge 2 by a spoiled 0 by b;");
            archive.ask(0, 0, 0);
            String saved = UndoTest.seen(archive);
            archive.save(1);
            for (int turn = 0; turn < 3; turn++) {
                archive.wave();
                archive.harm(1, 2);
                archive.leave(2);
                archive.round(turn);
                archive.setPledge(0, 9);
                archive.restore(1);
                c.due("as it was saved", saved, UndoTest.seen(archive));
            }
            Texts.load(archive, TWO);
            archive.restore(1);
            c.due("behind another archive", saved, UndoTest.seen(archive));
        });
        s.edge("- `slot`: 0 or 1", () -> {
            VillagePhotos archive = new VillagePhotos();
            archive.join(1);
            archive.save(1);
            archive.join(1);
            archive.save(0);
            c.due("slot 1", 3, archive.restore(1));
            c.due("slot 0", 4, archive.restore(0));
        });
        s.edge("Returns the number of families then.", () -> {
            VillagePhotos archive = s.good(SentencesOfTerms.families(10));
            archive.save(0);
            archive.undo();
            c.due("two before", 2, archive.count(1));
            archive.save(1);
            c.due("ten", 10, archive.restore(0));
            c.due("two", 2, archive.restore(1));
            c.due("two again", 2, archive.restore(1));
        });
    }

    private void restoreRefused() {
        s.edge("Throws `IndexOutOfBoundsException` if there is no such slot", () -> {
            VillagePhotos archive = new VillagePhotos();
            c.outsideOne("nothing is saved", 2, archive::restore);
            archive.save(0);
            archive.save(1);
            c.outsideOne("both are saved", 2, archive::restore);
            c.isThrown("no change was made", IllegalStateException.class, archive::undo);
        });
        s.edge("Throws `IllegalStateException` if nothing is saved there", () -> {
            VillagePhotos archive = new VillagePhotos();
            c.isThrown("slot 0", IllegalStateException.class, () -> archive.restore(0));
            archive.save(0);
            c.isThrown("slot 1", IllegalStateException.class, () -> archive.restore(1));
            c.due("slot 0, behind save", 2, archive.restore(0));
            archive.undo();
            c.due("slot 0, behind undo", 2, archive.restore(0));
        });
    }
}
