/** Promises 1, 2 and 4 to 9: a new object, the text buffer, and the plain numbers of an archive. */
public final class SetupTest {
    static final String VILLAGE = "tiles 8;family anna 3;family bo 2;family carl 5;family dora 1;"
            + "near anna bo;near bo carl;near carl dora;"
            + "picture mill pledge 2 by anna spoiled 0 3 by bo spoiled 3 5 by carl;"
            + "picture lake pledge 3 by carl by dora spoiled 7;"
            + "picture barn pledge 1;";

    private static final Checks CHECKS = new Checks();

    public static void main(String[] args) {
        newObject();
        appending();
        errorPositions();
        counts();
        families();
        pictures();
        copies();
        reasons();
        CHECKS.end("SetupTest");
    }

    private static void newObject() {
        VillagePhotos archive = new VillagePhotos();
        int[] want = {4, 2, 0, 0, 0, 0, 0, 0, 0, 0, 0};
        for (int what = 0; what < want.length; what++) {
            CHECKS.due("new: count " + what, want[what], archive.count(what));
        }
        for (int family = 0; family < 2; family++) {
            CHECKS.due("new: room of " + family, 1, archive.family(family, 0));
            CHECKS.due("new: copies of " + family, 0, archive.family(family, 1));
            CHECKS.due("new: trust of " + family, 50, archive.family(family, 5));
            CHECKS.due("new: neighbours of " + family, 0, archive.family(family, 6));
        }
        CHECKS.due("new: errorPosition", -1, archive.errorPosition());
        CHECKS.due("new: length of the pictures", 0, archive.writePictures());
        CHECKS.isThrown("new: undo", IllegalStateException.class, archive::undo);
        CHECKS.isThrown("new: restore 0", IllegalStateException.class, () -> archive.restore(0));
        CHECKS.isThrown("new: restore 1", IllegalStateException.class, () -> archive.restore(1));
        CHECKS.due("new: the buffer is empty", 1, archive.append('t', 0, 0, 0, 0));
        VillagePhotos other = new VillagePhotos();
        CHECKS.due("new: loading nothing", VillagePhotos.SYNTAX_ERROR, other.load());
        CHECKS.due("new: position of loading nothing", 0, other.errorPosition());
    }

    private static void appending() {
        VillagePhotos archive = new VillagePhotos();
        CHECKS.due("append nothing", 0, archive.append(0, 0, 0, 0, 0));
        CHECKS.due("append the byte 128", 1, archive.append(0x80000000, 0, 0, 0, 0));
        CHECKS.due("append bytes round zeros", 5, archive.append(0x00ff0001, 0, 0x7f000000, 0, 0x00000100));
        CHECKS.due("append 20", 25, archive.append(-1, -1, -1, -1, -1));
        for (int length = 45; length < 600; length += 20) {
            CHECKS.due("append up to " + length, length, archive.append(-1, -1, -1, -1, -1));
        }
        CHECKS.isThrown("append 20 to 585", IllegalStateException.class, () -> archive.append(-1, -1, -1, -1, -1));
        CHECKS.due("what was refused changed nothing", 599, archive.append(-1, -1, -1, 0x00010100, 0));
        CHECKS.isThrown("append 2 to 599", IllegalStateException.class, () -> archive.append(1, 0, 0, 0, 1));
        CHECKS.due("append the 600th", 600, archive.append(0, 0, 0, 0, 1));
        CHECKS.due("append nothing to 600", 600, archive.append(0, 0, 0, 0, 0));
        CHECKS.isThrown("append the 601st", IllegalStateException.class, () -> archive.append(0, 0, 1, 0, 0));
        CHECKS.due("load of it", VillagePhotos.SYNTAX_ERROR, archive.load());
        CHECKS.due("the buffer is empty behind load", 1, archive.append(0, 0, 0, 0, 1));
        orderOfBytes();
    }

    private static void orderOfBytes() {
        VillagePhotos archive = new VillagePhotos();
        archive.append(0x74696c65, 0x73000035, 0x3b66616d, 0x00696c79, 0x61313b00);
        archive.append(0x66616d69, 0x6c796231, 0x3b000000, 0, 0);
        CHECKS.due("tiles5;familya1; and familyb1;", VillagePhotos.SYNTAX_ERROR, archive.load());
        CHECKS.due("where familya stands", 7, archive.errorPosition());
        archive.append(0x74696c65, 0x73000035, 0x3b66616d, 0x00696c79, 0x20613100);
        archive.append(0x3b66616d, 0x696c7920, 0x00006231, 0x0000003b, 0);
        CHECKS.due("tiles5;family a1;family b1;", 0, archive.load());
        CHECKS.due("tiles of it", 5, archive.count(0));
    }

    private static void errorPositions() {
        VillagePhotos archive = new VillagePhotos();
        Texts.load(archive, "tiles 4;family a 1;family b 21;");
        CHECKS.due("position of an error", 28, archive.errorPosition());
        CHECKS.due("told again", 28, archive.errorPosition());
        CHECKS.due("a good text", 0, Texts.load(archive, "tiles 4;family a 1;family b 20;"));
        CHECKS.due("position behind a good text", -1, archive.errorPosition());
        Texts.load(archive, "tiles 3;");
        archive.undo();
        CHECKS.due("undo leaves the position", 6, archive.errorPosition());
    }

    private static void counts() {
        VillagePhotos archive = Texts.archive(VILLAGE);
        due(archive, "loaded", 8, 4, 3, 5, 0, 3, 2, 3, 0, 0, 3);
        archive.ask(0, 0, 0);
        due(archive, "one broken", 8, 4, 3, 5, 1, 2, 2, 3, 1, 0, 3);
        archive.ask(0, 1, 0);
        archive.ask(0, 1, 5);
        due(archive, "two broken", 8, 4, 3, 5, 2, 1, 3, 3, 3, 0, 3);
        archive.repair(0, 1);
        due(archive, "one repaired", 8, 4, 3, 5, 1, 1, 2, 2, 3, 1, 3);
        archive.wave();
        due(archive, "both repaired", 8, 4, 3, 5, 0, 1, 2, 2, 3, 2, 3);
        archive.meet(0, 3);
        due(archive, "two met", 8, 4, 3, 5, 0, 1, 2, 2, 3, 2, 4);
        archive.leave(2);
        due(archive, "one left", 8, 3, 3, 3, 0, 1, 2, 2, 3, 2, 2);
        CHECKS.refusesNumbers("count", archive::count, -1, 11, 12, Integer.MIN_VALUE, Integer.MAX_VALUE);
    }

    private static void due(VillagePhotos archive, String when, int... want) {
        for (int what = 0; what < want.length; what++) {
            CHECKS.due(when + ": count " + what, want[what], archive.count(what));
        }
    }

    private static void families() {
        VillagePhotos archive = Texts.archive(VILLAGE);
        dueOfFamily(archive, 0, 3, 1, 0, 0, 0, 50, 2);
        dueOfFamily(archive, 1, 2, 1, 0, 0, 0, 50, 5);
        dueOfFamily(archive, 2, 5, 2, 0, 0, 0, 50, 10);
        dueOfFamily(archive, 3, 1, 1, 0, 0, 0, 50, 4);
        archive.ask(0, 0, 1);
        dueOfFamily(archive, 0, 3, 1, 0, 1, 0, 66, 2);
        archive.ask(0, 0, 0);
        dueOfFamily(archive, 0, 3, 1, 1, 1, 1, 50, 2);
        archive.ask(1, 3, 7);
        dueOfFamily(archive, 3, 1, 1, 1, 0, 1, 33, 4);
        CHECKS.outsideOne("family", 4, family -> archive.family(family, 0));
        CHECKS.outsideOne("family, with a wrong what,", 4, family -> archive.family(family, 7));
        CHECKS.refusesNumbers("family 3", what -> archive.family(3, what),
                -1, 7, 8, Integer.MIN_VALUE, Integer.MAX_VALUE);
    }

    private static void dueOfFamily(VillagePhotos archive, int family, int... want) {
        for (int what = 0; what < want.length; what++) {
            CHECKS.due("family " + family + ", " + what, want[what], archive.family(family, what));
        }
    }

    private static void pictures() {
        VillagePhotos archive = Texts.archive(VILLAGE);
        dueOfPicture(archive, 0, 2, 7, 0, 4, 0, 1);
        dueOfPicture(archive, 1, 3, 12, 0, 4, 1, 1);
        dueOfPicture(archive, 2, 1, 0, 0, 0, 1, 1);
        archive.ask(0, 0, 0);
        dueOfPicture(archive, 0, 2, 6, 1, 4, 0, 1);
        archive.ask(0, 1, 3);
        dueOfPicture(archive, 0, 2, 4, 3, 4, 1, 1);
        archive.wave();
        dueOfPicture(archive, 0, 2, 6, 1, 6, 0, 0);
        archive.setPledge(0, 3);
        dueOfPicture(archive, 0, 3, 6, 1, 6, 1, 1);
        CHECKS.outsideOne("picture", 3, picture -> archive.picture(picture, 0));
        CHECKS.outsideOne("picture, with a wrong what,", 3, picture -> archive.picture(picture, 6));
        CHECKS.refusesNumbers("picture 2", what -> archive.picture(2, what),
                -1, 6, 7, Integer.MIN_VALUE, Integer.MAX_VALUE);
    }

    private static void dueOfPicture(VillagePhotos archive, int picture, int... want) {
        for (int what = 0; what < want.length; what++) {
            CHECKS.due("picture " + picture + ", " + what, want[what], archive.picture(picture, what));
        }
    }

    private static void copies() {
        VillagePhotos archive = Texts.archive(VILLAGE);
        int[][] want = {{9, 40, 0, -1}, {-1, -1, 0, 128}, {-1, -1, -1, -1}};
        for (int picture = 0; picture < 3; picture++) {
            for (int family = 0; family < 4; family++) {
                CHECKS.due("copy " + picture + ", " + family, want[picture][family], archive.copy(picture, family));
            }
        }
        archive.ask(0, 1, 5);
        CHECKS.due("a broken copy", 40, archive.copy(0, 1));
        CHECKS.outside("copy", archive, archive::copy);
    }

    private static void reasons() {
        VillagePhotos archive = Texts.archive(VILLAGE);
        CHECKS.due("why of a sound one", 0, archive.why(0, 2));
        CHECKS.due("why of none", 1, archive.why(0, 3));
        CHECKS.due("why of a spoiled one", 3, archive.why(0, 0));
        archive.ask(0, 0, 3);
        CHECKS.due("why of a broken one", 2, archive.why(0, 0));
        archive.harm(2, 1);
        CHECKS.due("why of a harmed one", 3, archive.why(0, 2));
        CHECKS.outside("why", archive, archive::why);
    }
}
