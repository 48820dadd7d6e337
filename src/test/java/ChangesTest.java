/** Promises 24 to 33: what changes an archive, and what is refused. */
public final class ChangesTest {
    private static final Checks CHECKS = new Checks();

    public static void main(String[] args) {
        ask();
        round();
        harm();
        repair();
        wave();
        spreadToTheBest();
        spreadByNewCopies();
        spreadInOrder();
        join();
        meet();
        leave();
        leaveInTheMiddle();
        setPledge();
        CHECKS.end("ChangesTest");
    }

    private static void ask() {
        VillagePhotos archive = Texts.archive(SetupTest.VILLAGE);
        CHECKS.due("a right answer", 1, archive.ask(0, 0, 1));
        CHECKS.due("the last tile is right", 1, archive.ask(0, 0, 7));
        CHECKS.due("no copy", -11, archive.ask(0, 3, 0));
        CHECKS.due("a wrong answer", 0, archive.ask(0, 0, 3));
        CHECKS.due("a broken copy", -12, archive.ask(0, 0, 1));
        CHECKS.due("the last tile is wrong", 0, archive.ask(1, 3, 7));
        CHECKS.due("questions", 4, archive.count(8));
        CHECKS.due("right answers", 2, archive.family(0, 3));
        CHECKS.due("wrong answers", 1, archive.family(0, 4));
        CHECKS.due("a broken copy keeps its spoiled tiles", 9, archive.copy(0, 0));
        CHECKS.outside("ask", archive, (picture, family) -> archive.ask(picture, family, 0));
        CHECKS.outsideOne("ask tile", 8, tile -> archive.ask(0, 1, tile));
        CHECKS.outsideOne("ask tile, of no copy,", 8, tile -> archive.ask(0, 3, tile));
        CHECKS.outsideOne("ask tile, of a broken copy,", 8, tile -> archive.ask(0, 0, tile));
        CHECKS.due("only what succeeded is a change", 4, archive.undo());
    }

    private static void round() {
        String text = "tiles 5;family a 9;family b 9;family c 9;"
                + "picture p pledge 1 by c spoiled 0 1 by a spoiled 2 3;picture q pledge 1 by b spoiled 4 by a;";
        for (int x : new int[] {0, 1, 2, 3, 4, 5, 12345, 65536, 1103515245, Integer.MAX_VALUE - 1, Integer.MAX_VALUE}) {
            VillagePhotos archive = Texts.archive(text);
            int[] spoiledInTurn = {12, 3, 0, 16};
            int wrong = 0;
            long number = x;
            for (int spoiled : spoiledInTurn) {
                number = (1103515245L * number + 12345L) % 2147483648L;
                wrong += spoiled >> (number / 65536 % 5) & 1;
            }
            CHECKS.due("wrong answers of round " + x, wrong, archive.round(x));
            CHECKS.due("broken behind round " + x, wrong, archive.count(4));
            CHECKS.due("questions of round " + x, 4, archive.count(8));
            CHECKS.due("answers of a", 2, archive.family(0, 3) + archive.family(0, 4));
            CHECKS.due("answers of b", 1, archive.family(1, 3) + archive.family(1, 4));
            archive.round(x);
            CHECKS.due("questions of two rounds", 8 - wrong, archive.count(8));
            archive.undo();
            archive.undo();
            CHECKS.due("a round is one change", 0, archive.count(8));
            CHECKS.refusesNumbers("round", archive::round, -1, -2, Integer.MIN_VALUE);
        }
        VillagePhotos broken = Texts.archive(text);
        broken.ask(0, 2, 0);
        broken.harm(0, 31);
        broken.harm(1, 31);
        CHECKS.due("what was broken before is not counted", 3, broken.round(0));
        CHECKS.due("all are broken", 4, broken.count(4));
        CHECKS.due("a round of nothing", 0, new VillagePhotos().round(7));
    }

    private static void harm() {
        VillagePhotos archive = Texts.archive(SetupTest.VILLAGE);
        CHECKS.due("two sound ones", 2, archive.harm(2, 1));
        CHECKS.due("none is sound any more", 0, archive.harm(2, 130));
        CHECKS.due("tiles of all harms", 131, archive.copy(0, 2));
        CHECKS.due("of the other copy too", 131, archive.copy(1, 2));
        CHECKS.due("one that was spoiled", 0, archive.harm(0, 1));
        CHECKS.due("tiles stay spoiled", 9, archive.copy(0, 0));
        archive.ask(0, 0, 0);
        CHECKS.due("a broken one", 0, archive.harm(0, 255));
        CHECKS.due("it is harmed, too", 255, archive.copy(0, 0));
        CHECKS.due("it stays broken", 2, archive.why(0, 0));
        CHECKS.due("others are not harmed", 40, archive.copy(0, 1));
        CHECKS.due("what is not there is not harmed", -1, archive.copy(1, 0));
        archive.leave(0);
        archive.join(3);
        CHECKS.due("a family without copies", 0, archive.harm(3, 1));
        CHECKS.outsideOne("harm", 4, family -> archive.harm(family, 1));
        CHECKS.outsideOne("harm without tiles", 4, family -> archive.harm(family, 0));
        CHECKS.refusesNumbers("harm", tiles -> archive.harm(1, tiles),
                0, 256, 257, 65536, -1, Integer.MIN_VALUE, Integer.MAX_VALUE);
        VillagePhotos most = Texts.archive("tiles 16;family a 1;family b 1;picture p pledge 1 by a;");
        CHECKS.due("all of 16 tiles", 1, most.harm(0, 65535));
        CHECKS.refusesNumbers("harm 16 tiles", tiles -> most.harm(0, tiles), 65536, 131071);
    }

    private static void repair() {
        VillagePhotos archive = Texts.archive("tiles 4;family a 9;family b 9;family c 9;family d 9;"
                + "near a b;near b c;near a d;"
                + "picture p pledge 1 by a spoiled 0 1 by b spoiled 2 3 by c spoiled 1 3;"
                + "picture q pledge 1 by d spoiled 0;");
        CHECKS.due("no copy", -11, archive.repair(0, 3));
        CHECKS.due("held", -13, archive.repair(0, 1));
        CHECKS.due("held, and no source", -13, archive.repair(1, 3));
        archive.ask(1, 3, 0);
        CHECKS.due("no source", -14, archive.repair(1, 3));
        archive.ask(0, 1, 2);
        CHECKS.due("two sources", 2, archive.repair(0, 1));
        CHECKS.due("what both have spoiled", 2, archive.copy(0, 1));
        CHECKS.due("it is held, not sound", 3, archive.why(0, 1));
        CHECKS.due("repairs", 1, archive.count(9));
        CHECKS.due("held again", -13, archive.repair(0, 1));
        archive.ask(0, 0, 0);
        CHECKS.due("one source", 1, archive.repair(0, 0));
        CHECKS.due("its spoiled tiles", 2, archive.copy(0, 0));
        CHECKS.outside("repair", archive, archive::repair);
        CHECKS.due("only what succeeded is a change", 5, archive.undo());
        CHECKS.due("repairs behind undo", 1, archive.count(9));
    }

    private static void wave() {
        VillagePhotos archive = Texts.archive("tiles 4;family a 9;family b 9;family c 9;family d 9;"
                + "near a b;near b c;near c d;"
                + "picture p pledge 1 by a spoiled 3 by b spoiled 0 by c spoiled 0 by d spoiled 0;"
                + "picture q pledge 1 by d by c spoiled 0;");
        CHECKS.due("nothing to repair", 0, archive.wave());
        archive.ask(0, 1, 0);
        archive.ask(0, 2, 0);
        archive.ask(0, 3, 0);
        archive.ask(1, 2, 0);
        CHECKS.due("the first wave", 2, archive.wave());
        CHECKS.due("p behind it", 3, archive.picture(0, 1));
        CHECKS.due("q behind it", 12, archive.picture(1, 1));
        CHECKS.due("as its source", 8, archive.copy(0, 1));
        CHECKS.due("as its sound source", 0, archive.copy(1, 2));
        CHECKS.due("the second wave", 1, archive.wave());
        CHECKS.due("the third wave", 1, archive.wave());
        CHECKS.due("the fourth wave", 0, archive.wave());
        CHECKS.due("repairs", 4, archive.count(9));
        CHECKS.due("the last copy", 8, archive.copy(0, 3));
        archive.undo();
        archive.undo();
        CHECKS.due("a wave of nothing is a change, too", 3, archive.count(9));
        CHECKS.due("broken again", 8, archive.picture(0, 2));
        sourcesBeforeTheWave();
    }

    /** b and c are broken beside each other; neither mends the other one in the same wave. */
    private static void sourcesBeforeTheWave() {
        VillagePhotos archive = Texts.archive("tiles 4;family a 9;family b 9;family c 9;family d 9;"
                + "near a b;near b c;near c d;"
                + "picture p pledge 1 by a spoiled 0 1 by b spoiled 0 by c spoiled 0 by d spoiled 1 2;");
        archive.ask(0, 1, 0);
        archive.ask(0, 2, 0);
        CHECKS.due("both at once", 2, archive.wave());
        CHECKS.due("b by a alone", 3, archive.copy(0, 1));
        CHECKS.due("c by d alone", 6, archive.copy(0, 2));
    }

    private static void spreadToTheBest() {
        String text = "tiles 4;family a 20;family b 2;family c 4;family d 4;family e 4;family f 20;"
                + "near a b;near a c;near a d;near a e;"
                + "picture o pledge 1 by c;picture p pledge 2 by a;picture q pledge 1 by e spoiled 0;";
        VillagePhotos archive = Texts.archive(text);
        CHECKS.due("to the one with most room", 1, archive.spread());
        CHECKS.due("it is d", 9, archive.picture(1, 1));
        VillagePhotos equal = Texts.archive(text);
        equal.leave(3);
        CHECKS.due("to the lowest of those that are alike", 1, equal.spread());
        CHECKS.due("it is c, before e, and not b", 5, equal.picture(1, 1));
        VillagePhotos trusted = Texts.archive(text);
        trusted.leave(3);
        trusted.ask(2, 3, 1);
        CHECKS.due("to the one with greater trust", 1, trusted.spread());
        CHECKS.due("it is e", 9, trusted.picture(1, 1));
        VillagePhotos distrusted = Texts.archive(text);
        distrusted.ask(0, 2, 0);
        distrusted.ask(2, 4, 0);
        distrusted.leave(3);
        CHECKS.due("a broken copy takes room, too", 1, distrusted.spread());
        CHECKS.due("it is c, with a right answer", 5, distrusted.picture(1, 1));
        CHECKS.due("a copy that is broken is no new one", 8, distrusted.picture(2, 2));
    }

    private static void spreadByNewCopies() {
        VillagePhotos archive = Texts.archive("tiles 4;family a 1;family b 5;family c 9;family d 9;"
                + "near a b;near b c;near a d;near d b;"
                + "picture p pledge 4 by a spoiled 0 1 2;picture q pledge 10 by c by d spoiled 1;");
        archive.harm(3, 2);
        CHECKS.due("three copies of p and one of q", 4, archive.spread());
        CHECKS.due("p is with all", 15, archive.picture(0, 1));
        CHECKS.due("q is not with a, who has no room", 14, archive.picture(1, 1));
        CHECKS.due("d got p from a", 7, archive.copy(0, 3));
        CHECKS.due("b got p from a and d", 7, archive.copy(0, 1));
        CHECKS.due("c got p from b", 7, archive.copy(0, 2));
        CHECKS.due("b got q from c and d", 0, archive.copy(1, 1));
        CHECKS.due("copies of b", 2, archive.family(1, 1));
        CHECKS.due("new copies are no repairs", 0, archive.count(9));
        CHECKS.due("new copies are no questions", 0, archive.count(8));
        CHECKS.due("q stays in danger", 1, archive.count(6));
        CHECKS.due("no more of it", 0, archive.spread());
        archive.undo();
        archive.undo();
        CHECKS.due("what was spread is gone", 3, archive.count(3));
    }

    /** The room of the only neighbour goes to the picture with the lower number. */
    private static void spreadInOrder() {
        VillagePhotos archive = Texts.archive("tiles 4;family a 9;family b 2;near a b;"
                + "picture o pledge 1 by a;picture p pledge 2 by a;picture q pledge 3 by a;picture r pledge 2 by a;");
        CHECKS.due("as long as there is room", 2, archive.spread());
        CHECKS.due("o is not in danger", 1, archive.picture(0, 1));
        CHECKS.due("p", 3, archive.picture(1, 1));
        CHECKS.due("q", 3, archive.picture(2, 1));
        CHECKS.due("r", 1, archive.picture(3, 1));
    }

    private static void join() {
        VillagePhotos archive = Texts.archive(SetupTest.VILLAGE);
        CHECKS.refusesNumbers("join", archive::join, 0, -1, 21, Integer.MIN_VALUE, Integer.MAX_VALUE);
        for (int family = 4; family < 10; family++) {
            CHECKS.due("number", family, archive.join(family == 4 ? 1 : 20));
            CHECKS.due("families", family + 1, archive.count(1));
            CHECKS.due("room", family == 4 ? 1 : 20, archive.family(family, 0));
            for (int what = 1; what < 7; what++) {
                CHECKS.due("family " + family + ", " + what, what == 5 ? 50 : 0, archive.family(family, what));
            }
            CHECKS.due("no copy", -1, archive.copy(0, family));
        }
        CHECKS.due("an 11th one", -15, archive.join(5));
        CHECKS.refusesNumbers("join, when there are ten,", archive::join, 0, 21);
        CHECKS.due("a refusal is no change", 6, archive.undo());
        CHECKS.due("families behind undo", 9, archive.count(1));
    }

    private static void meet() {
        VillagePhotos archive = Texts.archive(SetupTest.VILLAGE);
        CHECKS.due("neighbours already", -16, archive.meet(0, 1));
        CHECKS.due("the other way round", -16, archive.meet(1, 0));
        CHECKS.due("a fourth pair", 4, archive.meet(3, 0));
        CHECKS.due("and the other way round", -16, archive.meet(0, 3));
        CHECKS.due("neighbours of the one", 10, archive.family(0, 6));
        CHECKS.due("neighbours of the other", 5, archive.family(3, 6));
        CHECKS.due("a fifth pair", 5, archive.meet(0, 2));
        CHECKS.outsideOne("meet one", 4, one -> archive.meet(one, 1));
        CHECKS.outsideOne("meet other", 4, other -> archive.meet(1, other));
        CHECKS.outsideOne("meet itself", 4, one -> archive.meet(one, one));
        CHECKS.refusesNumbers("meet", one -> archive.meet(one, one), 0, 1, 2, 3);
        CHECKS.due("refusals are no changes", 2, archive.undo());
    }

    private static void leave() {
        VillagePhotos archive = Texts.archive(SetupTest.VILLAGE);
        CHECKS.outsideOne("leave", 4, archive::leave);
        archive.ask(0, 0, 0);
        CHECKS.due("one broken copy went", 1, archive.leave(0));
        CHECKS.due("two copies went", 2, archive.leave(1));
        CHECKS.due("refused with two families", -17, archive.leave(0));
        CHECKS.due("refused with two families, the other", -17, archive.leave(1));
        CHECKS.outsideOne("leave, with two families,", 2, archive::leave);
        CHECKS.due("bo and dora are left", "mill:bo* lake:dora* barn:*", Texts.written(archive));
        CHECKS.due("no pair of neighbours", 0, archive.count(10));
        CHECKS.due("questions stay counted", 1, archive.count(8));
        CHECKS.due("a family joins", 2, archive.join(4));
        CHECKS.due("it has no copies that went", 0, archive.family(2, 1));
        CHECKS.due("it has none of mill", -1, archive.copy(0, 2));
        CHECKS.due("it has no neighbours", 0, archive.family(2, 6));
        CHECKS.due("no copy goes with it", 0, archive.leave(2));
        CHECKS.due("families behind it", 2, archive.count(1));
        VillagePhotos last = Texts.archive(SetupTest.VILLAGE);
        CHECKS.due("the copy of the last one", 1, last.leave(3));
        CHECKS.due("written without dora", "mill:anna,bo,carl lake:carl* barn:*", Texts.written(last));
        CHECKS.due("neighbours of carl", 2, last.family(2, 6));
        VillagePhotos first = Texts.archive(SetupTest.VILLAGE);
        CHECKS.due("the copy of the first one", 1, first.leave(0));
        CHECKS.due("written without anna", "mill:bo,carl lake:carl,dora* barn:*", Texts.written(first));
        CHECKS.due("neighbours of bo", 2, first.family(0, 6));
    }

    private static void leaveInTheMiddle() {
        VillagePhotos archive = Texts.archive("tiles 4;family a 1;family b 2;family c 3;family d 4;"
                + "near a b;near a d;near b c;near c d;"
                + "picture p pledge 1 by a spoiled 0 by b spoiled 1 by c spoiled 2 by d spoiled 3;"
                + "picture q pledge 1 by d spoiled 0;picture r pledge 1 by b by c;");
        archive.ask(0, 2, 2);
        archive.ask(0, 3, 0);
        archive.ask(2, 1, 0);
        CHECKS.due("two copies went", 2, archive.leave(1));
        CHECKS.due("written", "p:a,c!,d q:d r:c", Texts.written(archive));
        int[][] want = {{1, 1, 0, 0, 0, 50, 4}, {3, 2, 1, 0, 1, 33, 4}, {4, 2, 0, 1, 0, 66, 3}};
        for (int family = 0; family < 3; family++) {
            for (int what = 0; what < 7; what++) {
                CHECKS.due("family " + family + ", " + what, want[family][what], archive.family(family, what));
            }
        }
        CHECKS.due("copy of a", 1, archive.copy(0, 0));
        CHECKS.due("copy of c", 4, archive.copy(0, 1));
        CHECKS.due("copy of d", 8, archive.copy(0, 2));
        CHECKS.due("other copy of d", 1, archive.copy(1, 2));
        CHECKS.due("pairs", 2, archive.count(10));
        CHECKS.due("questions", 3, archive.count(8));
        CHECKS.outsideOne("family behind the last", 3, family -> archive.family(family, 0));
        archive.undo();
        CHECKS.due("written behind undo", "p:a,b,c!,d q:d r:b,c", Texts.written(archive));
    }

    private static void setPledge() {
        VillagePhotos archive = Texts.archive(SetupTest.VILLAGE);
        CHECKS.due("the pledge before", 3, archive.setPledge(1, 10));
        CHECKS.due("the new one", 10, archive.picture(1, 0));
        CHECKS.due("set to 1", 10, archive.setPledge(1, 1));
        CHECKS.due("not in danger any more", 0, archive.picture(1, 4));
        CHECKS.due("the same again", 1, archive.setPledge(1, 1));
        CHECKS.due("other pledges stay", 2, archive.picture(0, 0));
        CHECKS.outsideOne("setPledge", 3, picture -> archive.setPledge(picture, 5));
        CHECKS.outsideOne("setPledge to 0", 3, picture -> archive.setPledge(picture, 0));
        CHECKS.refusesNumbers("setPledge", pledge -> archive.setPledge(0, pledge),
                0, 11, -1, Integer.MIN_VALUE, Integer.MAX_VALUE);
        CHECKS.due("the same pledge is a change, too", 3, archive.undo());
        archive.undo();
        CHECKS.due("undone", 10, archive.picture(1, 0));
    }
}
