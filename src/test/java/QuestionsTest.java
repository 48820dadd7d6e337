/** Promises 10 to 13: how likely questions find what is spoiled, and whom to trust. */
public final class QuestionsTest {
    private static final String ONE_OF_SIXTEEN =
            "tiles 16;family a 1;family b 1;picture p pledge 1 by a spoiled 5;";
    private static final Checks CHECKS = new Checks();

    public static void main(String[] args) {
        chances();
        chancesThatAreRefused();
        bestTiles();
        roundsThatFind();
        lastRounds();
        roundsGoOn();
        leastTrusted();
        CHECKS.end("QuestionsTest");
    }

    private static void chances() {
        VillagePhotos archive = Texts.archive("tiles 8;family a 9;family b 1;"
                + "picture p pledge 1 by a;"
                + "picture q pledge 1 by a spoiled 0 7;"
                + "picture r pledge 1 by a spoiled 0 1 2 3 4 5 6 7;"
                + "picture s pledge 1 by a spoiled 1 2 4;");
        for (int questions = 0; questions <= 8; questions++) {
            CHECKS.due("chance of a sound copy", 0.0, archive.chance(0, 0, questions));
            CHECKS.due("chance of a wholly spoiled copy", questions == 0 ? 0.0 : 1.0,
                    archive.chance(2, 0, questions));
        }
        CHECKS.due("2 spoiled, 0 questions", 0.0, archive.chance(1, 0, 0));
        CHECKS.due("2 spoiled, 1 question", 0.25, archive.chance(1, 0, 1));
        CHECKS.due("2 spoiled, 2 questions", 1.0 - 1.0 * (6.0 / 8.0) * (5.0 / 7.0), archive.chance(1, 0, 2));
        CHECKS.due("2 spoiled, 6 questions", 1.0 - 1.0 * (6.0 / 8.0) * (5.0 / 7.0) * (4.0 / 6.0) * (3.0 / 5.0)
                * (2.0 / 4.0) * (1.0 / 3.0), archive.chance(1, 0, 6));
        CHECKS.due("2 spoiled, 7 questions", 1.0, archive.chance(1, 0, 7));
        CHECKS.due("2 spoiled, 8 questions", 1.0, archive.chance(1, 0, 8));
        CHECKS.due("3 spoiled, 3 questions", 1.0 - 1.0 * (5.0 / 8.0) * (4.0 / 7.0) * (3.0 / 6.0),
                archive.chance(3, 0, 3));
        archive.harm(0, 1);
        CHECKS.due("harmed, 1 question", 0.125, archive.chance(0, 0, 1));
    }

    private static void chancesThatAreRefused() {
        VillagePhotos archive = Texts.archive(SetupTest.VILLAGE);
        archive.ask(0, 0, 0);
        CHECKS.outside("chance", archive, (picture, family) -> archive.chance(picture, family, -1));
        CHECKS.isThrown("chance of no copy", IllegalStateException.class, () -> archive.chance(0, 3, 1));
        CHECKS.isThrown("chance of no copy, -1", IllegalStateException.class, () -> archive.chance(2, 0, -1));
        CHECKS.isThrown("chance of a broken copy", IllegalStateException.class, () -> archive.chance(0, 0, 1));
        CHECKS.refusesNumbers("chance", questions -> archive.chance(0, 1, questions),
                -1, 9, 16, Integer.MIN_VALUE, Integer.MAX_VALUE);
        CHECKS.due("chance with all tiles", 1.0, archive.chance(0, 1, 8));
    }

    private static void bestTiles() {
        VillagePhotos archive = Texts.archive("tiles 16;family a 9;family b 9;family c 9;"
                + "picture p pledge 1 by a by b;"
                + "picture q pledge 1 by a spoiled 4 15 by b spoiled 3 15 by c spoiled 3 4;"
                + "picture r pledge 1 by a spoiled 15;"
                + "picture s pledge 1;");
        CHECKS.due("best tile of sound copies", -1, archive.bestTile(0));
        CHECKS.due("best tile of several", 3, archive.bestTile(1));
        CHECKS.due("the last tile", 15, archive.bestTile(2));
        CHECKS.due("best tile without copies", -1, archive.bestTile(3));
        archive.ask(1, 1, 3);
        CHECKS.due("broken copies do not count", 4, archive.bestTile(1));
        archive.ask(2, 0, 15);
        CHECKS.due("none is held", -1, archive.bestTile(2));
        CHECKS.outsideOne("bestTile", 4, archive::bestTile);
        archive.harm(0, 1);
        CHECKS.due("the first tile", 0, archive.bestTile(0));
    }

    private static void roundsThatFind() {
        VillagePhotos sound = Texts.archive("tiles 4;family a 1;family b 1;picture p pledge 1 by a;");
        CHECKS.due("nothing is spoiled", 0, sound.roundsToFind(0));
        CHECKS.due("nothing at all", 0, new VillagePhotos().roundsToFind(Integer.MAX_VALUE));
        VillagePhotos all = Texts.archive("tiles 4;family a 1;family b 1;picture p pledge 1 by a spoiled 0 1 2 3;");
        for (int x : new int[] {0, 1, 77, Integer.MAX_VALUE}) {
            CHECKS.due("each tile is spoiled", 1, all.roundsToFind(x));
        }
        all.ask(0, 0, 0);
        CHECKS.due("what is broken is found already", 0, all.roundsToFind(5));
        CHECKS.refusesNumbers("roundsToFind", all::roundsToFind, -1, -2, Integer.MIN_VALUE);
        VillagePhotos one = Texts.archive(ONE_OF_SIXTEEN);
        one.roundsToFind(1);
        CHECKS.due("no question was asked", 0, one.count(8));
        CHECKS.due("nothing is broken", 0, one.count(4));
        CHECKS.isThrown("no change", IllegalStateException.class, () -> {
            one.undo();
            return one.undo();
        });
    }

    /** How many questions, one behind the other, until tile 5 of 16 is the one; 61 if it takes more than 60. */
    private static int questionsUntilTileFive(int x) {
        long number = x;
        for (int rounds = 1; rounds <= 60; rounds++) {
            number = (1103515245L * number + 12345L) % 2147483648L;
            if (number / 65536 % 16 == 5) {
                return rounds;
            }
        }
        return 61;
    }

    private static void lastRounds() {
        VillagePhotos archive = Texts.archive(ONE_OF_SIXTEEN);
        boolean[] met = new boolean[62];
        for (int x = 0; !(met[60] && met[61]) && x < 100000; x++) {
            int want = questionsUntilTileFive(x);
            if (!met[want]) {
                met[want] = true;
                CHECKS.due("rounds from " + x, want == 61 ? VillagePhotos.NONE : want, archive.roundsToFind(x));
            }
        }
        CHECKS.due("some x needs 1 round", true, met[1]);
        CHECKS.due("some x needs 60 rounds", true, met[60]);
        CHECKS.due("some x needs more", true, met[61]);
    }

    /** A round goes on with the x of the one before it, and a broken copy takes no question. */
    private static void roundsGoOn() {
        String text = "tiles 16;family a 3;family b 3;family c 3;"
                + "picture p pledge 1 by a spoiled 1 2 3 by b spoiled 4 by c;picture q pledge 1 by c spoiled 7 8;";
        for (int x = 0; x < 200; x++) {
            VillagePhotos archive = Texts.archive(text);
            int found = archive.roundsToFind(x);
            long number = x;
            int rounds = 0;
            while (archive.count(5) > 0 && rounds < 60) {
                rounds++;
                int questions = archive.count(3) - archive.count(4);
                archive.round((int) number);
                for (int k = 0; k < questions; k++) {
                    number = (1103515245L * number + 12345L) % 2147483648L;
                }
            }
            CHECKS.due("rounds made from " + x, archive.count(5) > 0 ? VillagePhotos.NONE : rounds, found);
        }
    }

    private static void leastTrusted() {
        CHECKS.due("all alike", 0, new VillagePhotos().leastTrusted());
        VillagePhotos archive = Texts.archive("tiles 4;family a 9;family b 9;family c 9;"
                + "picture p pledge 1 by a spoiled 0 by b spoiled 0 by c spoiled 0;");
        archive.ask(0, 0, 1);
        CHECKS.due("the first is trusted more", 1, archive.leastTrusted());
        archive.ask(0, 2, 0);
        CHECKS.due("the last is trusted less", 2, archive.leastTrusted());
        archive.ask(0, 1, 0);
        CHECKS.due("of two the lower one", 1, archive.leastTrusted());
        archive.ask(0, 0, 1);
        CHECKS.due("trust of two right answers", 75, archive.family(0, 5));
        archive.ask(0, 0, 0);
        CHECKS.due("trust of a wrong one more", 60, archive.family(0, 5));
        CHECKS.due("trust of a wrong one", 33, archive.family(1, 5));
    }
}
