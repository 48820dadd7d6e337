/** An archive as full as can be: ten families, twelve pictures, sixteen tiles, 120 copies, 45 pairs. */
public final class LimitsTest {
    private static final Checks CHECKS = new Checks();

    public static void main(String[] args) {
        looking();
        breaking();
        leaving();
        CHECKS.end("LimitsTest");
    }

    private static VillagePhotos oneHolder() {
        StringBuilder text = new StringBuilder("tiles 16;");
        for (char name = 'a'; name <= 'j'; name++) {
            text.append("family ").append(name).append(" 20;");
        }
        for (char name = 'a'; name <= 'l'; name++) {
            text.append("picture ").append(name).append(" pledge 10by j;");
        }
        return Texts.archive(text.toString());
    }

    private static VillagePhotos full() {
        VillagePhotos archive = oneHolder();
        int pairs = 0;
        for (int one = 0; one < 10; one++) {
            for (int other = one + 1; other < 10; other++) {
                pairs++;
                CHECKS.due("pairs", pairs, archive.meet(one, other));
            }
        }
        CHECKS.due("copies that would be made", 108, archive.wouldSpread());
        CHECKS.due("copies that are made", 108, archive.spread());
        return archive;
    }

    private static void looking() {
        VillagePhotos archive = oneHolder();
        CHECKS.due("in danger", 12, archive.count(6));
        CHECKS.due("no pair is enough", -1, archive.bestPair());
        CHECKS.due("reach of the last picture", 1, archive.reach(11));
        for (int family = 0; family < 8; family++) {
            archive.meet(family, family + 1);
        }
        CHECKS.due("one pair is enough for all", 9, archive.bestPair());
        VillagePhotos whole = full();
        CHECKS.due("no pair is left", -1, whole.bestPair());
        int[] counts = {16, 10, 12, 120, 0, 0, 0, 0, 0, 0, 45};
        for (int what = 0; what < counts.length; what++) {
            CHECKS.due("count " + what, counts[what], whole.count(what));
        }
        CHECKS.due("holders of the last picture", 1023, whole.picture(11, 1));
        CHECKS.due("sound ones", 1023, whole.picture(11, 3));
        CHECKS.due("sources of the last family", 511, whole.sources(11, 9));
        CHECKS.due("it would get", 0, whole.wouldGet(11, 9));
        CHECKS.due("the picture depends on all", 1023, whole.depends(11));
        CHECKS.due("most needed", 0, whole.mostNeeded());
        CHECKS.due("least trusted", 0, whole.leastTrusted());
        CHECKS.due("reach", 10, whole.reach(11));
        CHECKS.due("all are sound", 1.0f, whole.soundness());
        CHECKS.due("rounds", 0, whole.roundsToFind(1));
        CHECKS.due("best tile", -1, whole.bestTile(11));
        CHECKS.due("nothing to spread", 0, whole.wouldSpread());
    }

    private static void breaking() {
        VillagePhotos archive = full();
        CHECKS.due("harmed at the last tile", 12, archive.harm(9, 32768));
        CHECKS.due("the last tile is the best", 15, archive.bestTile(11));
        for (int picture = 0; picture < 12; picture++) {
            CHECKS.due("wrong", 0, archive.ask(picture, 9, 15));
        }
        CHECKS.due("waves", 1, archive.waves());
        CHECKS.due("lost", 0, archive.lost());
        CHECKS.due("least trusted", 9, archive.leastTrusted());
        CHECKS.due("repaired", 12, archive.wave());
        for (int family = 0; family < 10; family++) {
            CHECKS.due("all copies of a family", 12, archive.harm(family, 65535));
        }
        CHECKS.due("each question finds a spoiled one", 1.0, archive.chance(11, 9, 1));
        CHECKS.due("all questions", 1.0, archive.chance(11, 9, 16));
        CHECKS.due("rounds", 1, archive.roundsToFind(Integer.MAX_VALUE));
        CHECKS.due("wrong answers of a round", 120, archive.round(Integer.MAX_VALUE));
        CHECKS.due("broken ones", 120, archive.count(4));
        CHECKS.due("broken ones of the last family", 12, archive.family(9, 2));
        CHECKS.due("no waves", 0, archive.waves());
        CHECKS.due("all are lost", 120, archive.lost());
        CHECKS.due("no wave", 0, archive.wave());
        CHECKS.due("no source", -14, archive.repair(11, 9));
        CHECKS.due("length of all with marks", 12 * 32 + 11, archive.writePictures());
    }

    private static void leaving() {
        for (int family = 0; family < 10; family++) {
            VillagePhotos archive = full();
            CHECKS.due("an 11th", -15, archive.join(1));
            CHECKS.due("copies that went", 12, archive.leave(family));
            CHECKS.due("families", 9, archive.count(1));
            CHECKS.due("copies", 108, archive.count(3));
            CHECKS.due("pairs", 36, archive.count(10));
            CHECKS.due("holders", 511, archive.picture(11, 1));
            CHECKS.due("joined", 9, archive.join(1));
            CHECKS.due("no copy of the new one", -1, archive.copy(11, 9));
            CHECKS.due("neighbours of the last one before", 255, archive.family(8, 6));
            archive.undo();
            archive.undo();
            CHECKS.due("neighbours before", 511, archive.family(9, 6));
        }
        VillagePhotos archive = full();
        for (int left = 9; left >= 2; left--) {
            CHECKS.due("copies that went", 12, archive.leave(left));
            CHECKS.due("copies", 12 * left, archive.count(3));
        }
        CHECKS.due("two are left", -17, archive.leave(1));
    }
}
