/** Promises 14 to 23: what neighbours could give, and on whom the pictures depend. */
public final class RepairsTest {
    /** Five families in a row; a holds what the others get. */
    private static final String ROW = "tiles 4;family a 9;family b 9;family c 9;family d 9;family e 9;"
            + "near a b;near b c;near c d;near d e;";
    private static final Checks CHECKS = new Checks();

    public static void main(String[] args) {
        sources();
        wouldGet();
        waves();
        depends();
        mostNeeded();
        reach();
        wouldSpread();
        bestPair();
        bestPairOfSeveral();
        soundness();
        nothingIsChanged();
        CHECKS.end("RepairsTest");
    }

    private static void sources() {
        VillagePhotos archive = Texts.archive(SetupTest.VILLAGE);
        int[][] want = {{2, 5, 2, 4}, {0, 4, 8, 4}, {0, 0, 0, 0}};
        for (int picture = 0; picture < 3; picture++) {
            for (int family = 0; family < 4; family++) {
                CHECKS.due("sources " + picture + ", " + family, want[picture][family],
                        archive.sources(picture, family));
            }
        }
        archive.ask(0, 1, 3);
        CHECKS.due("a broken copy is no source", 0, archive.sources(0, 0));
        CHECKS.due("a broken copy may have sources", 5, archive.sources(0, 1));
        CHECKS.outside("sources", archive, archive::sources);
    }

    private static void wouldGet() {
        VillagePhotos archive = Texts.archive("tiles 16;family a 9;family b 9;family c 9;family d 9;"
                + "near a d;near b d;near d c;"
                + "picture p pledge 1 by a spoiled 0 1 15 by b spoiled 1 2 15 by c spoiled 3 1 15;"
                + "picture q pledge 1 by a spoiled 4 by b spoiled 5;"
                + "picture r pledge 1 by d spoiled 6;");
        CHECKS.due("spoiled in all of three", 2 + 32768, archive.wouldGet(0, 3));
        CHECKS.due("spoiled in none of two", 0, archive.wouldGet(1, 3));
        CHECKS.due("by one source", 64, archive.wouldGet(2, 0));
        CHECKS.due("by no source", -1, archive.wouldGet(2, 3));
        CHECKS.due("a copy of its own is no source", -1, archive.wouldGet(0, 0));
        archive.ask(0, 0, 1);
        CHECKS.due("spoiled in both that are held", 2 + 32768, archive.wouldGet(0, 3));
        archive.ask(0, 1, 1);
        CHECKS.due("spoiled in the one that is held", 2 + 8 + 32768, archive.wouldGet(0, 3));
        archive.ask(0, 2, 1);
        CHECKS.due("none is held", -1, archive.wouldGet(0, 3));
        CHECKS.outside("wouldGet", archive, archive::wouldGet);
    }

    private static void waves() {
        VillagePhotos archive = Texts.archive(ROW
                + "picture p pledge 1 by a by b spoiled 0 by c spoiled 0 by d spoiled 0 by e spoiled 0;"
                + "picture q pledge 1 by a spoiled 0 by b spoiled 0;"
                + "picture r pledge 1 by d spoiled 0 by a spoiled 0;");
        dueOfWaves(archive, "nothing is broken", 0, 0);
        archive.ask(0, 1, 0);
        dueOfWaves(archive, "one is broken", 1, 0);
        archive.ask(0, 2, 0);
        archive.ask(0, 3, 0);
        dueOfWaves(archive, "between two held ones", 2, 0);
        archive.ask(0, 4, 0);
        dueOfWaves(archive, "behind one held one", 4, 0);
        archive.ask(1, 0, 0);
        dueOfWaves(archive, "another picture in the same waves", 4, 0);
        archive.ask(1, 1, 0);
        dueOfWaves(archive, "a picture without a held copy", 4, 2);
        archive.ask(2, 0, 0);
        dueOfWaves(archive, "a held copy too far away", 4, 3);
        for (int want = 3; want >= 0; want--) {
            archive.wave();
            dueOfWaves(archive, "behind a wave", want, 3);
        }
        archive.wave();
        dueOfWaves(archive, "behind a wave of nothing", 0, 3);
        archive.undo();
        archive.undo();
        archive.roundsToFind(1);
        CHECKS.due("lost, behind another call", 3, archive.lost());
        CHECKS.due("waves, behind lost", 1, archive.waves());
    }

    private static void dueOfWaves(VillagePhotos archive, String when, int waves, int lost) {
        CHECKS.due("waves, " + when, waves, archive.waves());
        CHECKS.due("lost, " + when, lost, archive.lost());
    }

    private static void depends() {
        VillagePhotos archive = Texts.archive(ROW
                + "picture p pledge 2 by a by c spoiled 1;"
                + "picture q pledge 2 by a by b by e;"
                + "picture r pledge 3 by a by b;"
                + "picture s pledge 1 by e;");
        CHECKS.due("just as many as pledged", 5, archive.depends(0));
        CHECKS.due("one more than pledged", 0, archive.depends(1));
        CHECKS.due("in danger", 0, archive.depends(2));
        CHECKS.due("one family", 16, archive.depends(3));
        archive.setPledge(1, 3);
        CHECKS.due("another pledge", 19, archive.depends(1));
        archive.ask(0, 2, 1);
        CHECKS.due("a broken copy is not held", 0, archive.depends(0));
        archive.setPledge(0, 1);
        CHECKS.due("nobody depends on a broken copy", 1, archive.depends(0));
        CHECKS.outsideOne("depends", 4, archive::depends);
    }

    private static void mostNeeded() {
        CHECKS.due("without pictures", -1, new VillagePhotos().mostNeeded());
        VillagePhotos archive = Texts.archive(ROW
                + "picture p pledge 2 by b by c spoiled 0;"
                + "picture q pledge 2 by b by c by e;"
                + "picture r pledge 3 by a by b;"
                + "picture s pledge 1 by e;"
                + "picture t pledge 1 by e;");
        CHECKS.due("two pictures need the last one", 4, archive.mostNeeded());
        archive.setPledge(1, 3);
        CHECKS.due("three pictures do", 4, archive.mostNeeded());
        archive.setPledge(2, 2);
        CHECKS.due("of two the lower one", 1, archive.mostNeeded());
        archive.setPledge(3, 2);
        archive.setPledge(4, 2);
        archive.setPledge(2, 1);
        CHECKS.due("of three others", 1, archive.mostNeeded());
        archive.ask(0, 2, 0);
        archive.setPledge(1, 1);
        CHECKS.due("none is needed", -1, archive.mostNeeded());
        VillagePhotos one = Texts.archive(ROW + "picture p pledge 1 by d;");
        CHECKS.due("one picture is enough", 3, one.mostNeeded());
        VillagePhotos first = Texts.archive(ROW + "picture p pledge 2 by d by a;");
        CHECKS.due("the first of all", 0, first.mostNeeded());
    }

    private static void reach() {
        VillagePhotos archive = Texts.archive("tiles 4;family a 1;family b 1;family c 1;family d 1;family e 1;"
                + "family f 1;family g 1;family h 1;family i 1;family j 1;"
                + "near i j;near h i;near g h;near f g;near e f;near d e;near c d;"
                + "picture p pledge 1 by j;picture q pledge 1 by a by c;picture r pledge 1 by b spoiled 0;"
                + "picture s pledge 1;");
        CHECKS.due("against the numbers, without room", 8, archive.reach(0));
        CHECKS.due("from two families", 9, archive.reach(1));
        CHECKS.due("without neighbours", 1, archive.reach(2));
        CHECKS.due("without a copy", 0, archive.reach(3));
        archive.ask(2, 1, 0);
        CHECKS.due("a broken copy comes nowhere", 0, archive.reach(2));
        archive.meet(1, 2);
        CHECKS.due("further on", 9, archive.reach(0));
        archive.meet(0, 1);
        CHECKS.due("to all", 10, archive.reach(0));
        CHECKS.outsideOne("reach", 4, archive::reach);
        CHECKS.due("along the numbers", 5, Texts.archive(ROW + "picture p pledge 1 by a;").reach(0));
    }

    private static void wouldSpread() {
        VillagePhotos archive = Texts.archive(ROW + "picture p pledge 3 by a;picture q pledge 4 by c;");
        CHECKS.due("as many as are pledged", 5, archive.wouldSpread());
        CHECKS.due("nothing was made", 2, archive.count(3));
        CHECKS.due("so many are made", 5, archive.spread());
        CHECKS.due("nothing is left to make", 0, archive.wouldSpread());
        VillagePhotos full = Texts.archive("tiles 4;family a 1;family b 1;near a b;"
                + "picture p pledge 9 by a;picture q pledge 9 by b;");
        CHECKS.due("no room", 0, full.wouldSpread());
        CHECKS.due("no picture", 0, new VillagePhotos().wouldSpread());
        VillagePhotos alone = Texts.archive("tiles 4;family a 9;family b 9;picture p pledge 9 by a;");
        CHECKS.due("no source", 0, alone.wouldSpread());
    }

    private static void bestPair() {
        CHECKS.due("nothing is in danger", -1, new VillagePhotos().bestPair());
        String families = "family a 9;family b 9;family c 9;family d ";
        String pictures = ";near a b;picture p pledge 3 by a;picture q pledge 2 by d;";
        // if d had room, it could save p as it is saved by c, and q would be saved too
        VillagePhotos full = Texts.archive("tiles 4;" + families + "1" + pictures);
        CHECKS.due("one picture is saved by c", 2, full.bestPair());
        VillagePhotos withRoom = Texts.archive("tiles 4;" + families + "2" + pictures);
        CHECKS.due("two pictures are saved by d", 3, withRoom.bestPair());
    }

    private static void bestPairOfSeveral() {
        VillagePhotos archive = Texts.archive("tiles 4;family a 9;family b 9;family c 9;family d 9;near a b;"
                + "picture p pledge 3 by a;picture q pledge 2 by d;picture r pledge 2 by c by d;");
        // p may go on to c or d by a or b; only with d as a neighbour can q be saved too
        CHECKS.due("the first of several", 3, archive.bestPair());
        archive.wouldSpread();
        CHECKS.due("the same behind another call", 3, archive.bestPair());
        CHECKS.due("and the other call behind it", 1, archive.wouldSpread());
        archive.setPledge(1, 1);
        CHECKS.due("the first of more", 2, archive.bestPair());
        archive.setPledge(0, 4);
        CHECKS.due("no pair is enough", -1, archive.bestPair());
        archive.setPledge(0, 2);
        CHECKS.due("spread is enough as it is", -1, archive.bestPair());
        VillagePhotos two = Texts.archive("tiles 4;family a 9;family b 9;picture p pledge 2 by b;");
        CHECKS.due("the only pair", 1, two.bestPair());
        two.meet(0, 1);
        CHECKS.due("no pair is left", -1, two.bestPair());
        lastPair();
    }

    private static void lastPair() {
        VillagePhotos archive = Texts.archive("tiles 4;family a 1;family b 1;family c 1;family d 1;family e 1;"
                + "family f 1;family g 1;family h 1;family i 1;family j 1;"
                + "picture p pledge 1 by a;picture q pledge 1 by b;picture r pledge 1 by c;"
                + "picture s pledge 1 by d;picture t pledge 1 by e;picture u pledge 1 by f;"
                + "picture v pledge 1 by g;picture w pledge 1 by h;picture x pledge 2 by i;");
        CHECKS.due("the last pair of all", 89, archive.bestPair());
        archive.setPledge(8, 1);
        archive.setPledge(3, 2);
        CHECKS.due("a pair with the last one", 39, archive.bestPair());
    }

    private static void soundness() {
        CHECKS.due("without copies", 0.0f, new VillagePhotos().soundness());
        VillagePhotos archive = Texts.archive(ROW
                + "picture p pledge 2 by a by c spoiled 1;picture q pledge 2 by a spoiled 0;");
        CHECKS.due("one of three", 1.0f / 3.0f, archive.soundness());
        archive.ask(0, 2, 1);
        CHECKS.due("one of two", 0.5f, archive.soundness());
        archive.ask(1, 0, 0);
        CHECKS.due("one of one", 1.0f, archive.soundness());
        archive.harm(0, 1);
        CHECKS.due("none of one", 0.0f, archive.soundness());
        archive.ask(0, 0, 0);
        CHECKS.due("none is held", 0.0f, archive.soundness());
    }

    private static void nothingIsChanged() {
        VillagePhotos archive = Texts.archive(SetupTest.VILLAGE);
        archive.ask(0, 0, 0);
        archive.ask(0, 1, 3);
        archive.waves();
        archive.lost();
        archive.wouldSpread();
        archive.bestPair();
        archive.roundsToFind(9);
        CHECKS.due("written", "mill:anna!,bo!,carl* lake:carl,dora* barn:*", Texts.written(archive));
        CHECKS.due("questions", 2, archive.count(8));
        CHECKS.due("repairs", 0, archive.count(9));
        CHECKS.due("pairs", 3, archive.count(10));
        CHECKS.due("changes that can be undone: load and one question", 2, archive.undo());
    }
}
