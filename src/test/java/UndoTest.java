/** Promises 34 to 36: what is undone, saved and brought back. */
public final class UndoTest {
    private static final Checks CHECKS = new Checks();

    public static void main(String[] args) {
        nothingToUndo();
        eightChanges();
        everyChange();
        whatIsNoChange();
        whatUndoLeaves();
        changesBehindUndo();
        saveAndRestore();
        bothSlots();
        restoreIsAChange();
        CHECKS.end("UndoTest");
    }

    private static void nothingToUndo() {
        VillagePhotos archive = new VillagePhotos();
        CHECKS.isThrown("undo at first", IllegalStateException.class, archive::undo);
        archive.join(5);
        CHECKS.due("the only change", 0, archive.undo());
        CHECKS.due("families", 2, archive.count(1));
        CHECKS.isThrown("undo behind it", IllegalStateException.class, archive::undo);
        CHECKS.due("families still", 2, archive.count(1));
    }

    private static void eightChanges() {
        VillagePhotos archive = Texts.archive("tiles 4;family a 1;family b 1;picture p pledge 1;");
        for (int pledge = 2; pledge <= 10; pledge++) {
            archive.setPledge(0, pledge);
        }
        for (int left = 7; left >= 0; left--) {
            CHECKS.due("left to undo", left, archive.undo());
            CHECKS.due("the pledge", left + 2, archive.picture(0, 0));
        }
        CHECKS.isThrown("a ninth", IllegalStateException.class, archive::undo);
        CHECKS.due("the pledge stays", 2, archive.picture(0, 0));
    }

    private static void everyChange() {
        undoes("load", archive -> Texts.load(archive, "tiles 5;family x 1;family y 2;"));
        undoes("a right answer", archive -> archive.ask(0, 1, 0));
        undoes("a wrong answer", archive -> archive.ask(0, 1, 5));
        undoes("round", archive -> archive.round(5));
        undoes("harm", archive -> archive.harm(2, 3));
        undoes("repair", archive -> archive.repair(0, 0));
        undoes("wave", VillagePhotos::wave);
        undoes("spread", VillagePhotos::spread);
        undoes("join", archive -> archive.join(5));
        undoes("meet", archive -> archive.meet(0, 3));
        undoes("leave", archive -> archive.leave(1));
        undoes("setPledge", archive -> archive.setPledge(0, 9));
        undoes("restore", archive -> archive.restore(0));
    }

    private interface Change {
        Object make(VillagePhotos archive);
    }

    /** Makes and undoes a change of an archive with a broken copy, and another one saved. */
    private static void undoes(String name, Change change) {
        VillagePhotos archive = Texts.archive(SetupTest.VILLAGE);
        archive.save(0);
        archive.ask(0, 0, 0);
        String before = seen(archive);
        change.make(archive);
        CHECKS.due("another one behind " + name, false, before.equals(seen(archive)));
        archive.undo();
        CHECKS.due("undone: " + name, before, seen(archive));
    }

    /** All that can be seen of an archive without changing it. */
    static String seen(VillagePhotos archive) {
        StringBuilder text = new StringBuilder();
        for (int what = 0; what <= 10; what++) {
            text.append(archive.count(what)).append(' ');
        }
        for (int family = 0; family < archive.count(1); family++) {
            text.append("/ ");
            for (int what = 0; what <= 6; what++) {
                text.append(archive.family(family, what)).append(' ');
            }
        }
        for (int picture = 0; picture < archive.count(2); picture++) {
            text.append("/ ");
            for (int what = 0; what <= 5; what++) {
                text.append(archive.picture(picture, what)).append(' ');
            }
            for (int family = 0; family < archive.count(1); family++) {
                text.append(archive.copy(picture, family)).append(' ');
            }
        }
        return text.append(Texts.written(archive)).toString();
    }

    private static void whatIsNoChange() {
        VillagePhotos archive = Texts.archive(SetupTest.VILLAGE);
        archive.ask(0, 0, 0);
        archive.ask(0, 0, 0);
        archive.ask(0, 3, 0);
        archive.repair(0, 1);
        archive.repair(0, 3);
        archive.meet(0, 1);
        Texts.load(archive, "tiles 4;");
        archive.save(0);
        archive.writePictures();
        archive.append(1, 2, 3, 4, 5);
        Checks.outcome(() -> archive.harm(0, 0));
        Checks.outcome(() -> archive.harm(9, 1));
        Checks.outcome(() -> archive.round(-1));
        Checks.outcome(() -> archive.join(0));
        Checks.outcome(() -> archive.meet(0, 0));
        Checks.outcome(() -> archive.leave(4));
        Checks.outcome(() -> archive.setPledge(0, 0));
        Checks.outcome(() -> archive.ask(0, 1, 8));
        Checks.outcome(() -> archive.restore(1));
        Checks.outcome(() -> archive.restore(2));
        CHECKS.due("load and one question are changes", 1, archive.undo());
        CHECKS.due("load is one", 0, archive.undo());
        CHECKS.due("as at first", seen(new VillagePhotos()), seen(archive));
    }

    private static void whatUndoLeaves() {
        VillagePhotos archive = Texts.archive(SetupTest.VILLAGE);
        archive.save(1);
        archive.setPledge(2, 2);
        Texts.append(archive, "tiles 6;");
        String written = Texts.written(archive);
        archive.undo();
        archive.undo();
        CHECKS.due("the first byte stays written", 'm', (char) archive.writtenByte(0));
        CHECKS.due("the last byte stays written", '*', (char) archive.writtenByte(written.length() - 1));
        CHECKS.due("the buffer stays", 28, Texts.append(archive, "family a 1;family b "));
        CHECKS.due("the rest of it", 0, Texts.load(archive, "1;"));
        CHECKS.due("what was saved stays", 4, archive.restore(1));
        CHECKS.due("as it was saved", 1, archive.picture(2, 0));
    }

    private static void changesBehindUndo() {
        VillagePhotos archive = Texts.archive("tiles 4;family a 1;family b 1;picture p pledge 1;");
        for (int turn = 0; turn < 5; turn++) {
            archive.setPledge(0, 2);
            archive.setPledge(0, 3);
            archive.undo();
            archive.setPledge(0, 4);
            CHECKS.due("undo of another change", Math.min(2 + turn, 7), archive.undo());
            CHECKS.due("as before it", 2, archive.picture(0, 0));
        }
        for (int left = 5; left >= 0; left--) {
            CHECKS.due("left to undo", left, archive.undo());
        }
        CHECKS.due("the archive at first", 0, archive.count(2));
    }

    private static void saveAndRestore() {
        VillagePhotos archive = Texts.archive(SetupTest.VILLAGE);
        archive.ask(0, 0, 0);
        archive.wave();
        archive.ask(0, 0, 3);
        String saved = seen(archive);
        archive.save(0);
        CHECKS.outsideOne("restore", 2, archive::restore);
        CHECKS.outsideOne("save", 2, slot -> {
            archive.save(slot);
            return 0;
        });
        CHECKS.isThrown("restore the other slot", IllegalStateException.class, () -> archive.restore(1));
        archive.leave(0);
        archive.round(7);
        CHECKS.due("families then", 4, archive.restore(0));
        CHECKS.due("as it was saved", saved, seen(archive));
        archive.harm(2, 7);
        archive.leave(3);
        CHECKS.due("it stays saved", 4, archive.restore(0));
        CHECKS.due("as it was saved, again", saved, seen(archive));
        Texts.load(archive, "tiles 9;family a 3;family b 3;family c 3;picture p pledge 4 by c;");
        archive.save(0);
        archive.undo();
        CHECKS.due("another one was saved in its place", 3, archive.restore(0));
        CHECKS.due("tiles of it", 9, archive.count(0));
        CHECKS.due("written", "p:c*", Texts.written(archive));
    }

    private static void bothSlots() {
        VillagePhotos archive = new VillagePhotos();
        archive.save(1);
        archive.join(7);
        archive.save(0);
        archive.join(8);
        CHECKS.due("slot 1", 2, archive.restore(1));
        CHECKS.due("slot 0", 3, archive.restore(0));
        CHECKS.due("room of the third one", 7, archive.family(2, 0));
    }

    private static void restoreIsAChange() {
        VillagePhotos archive = new VillagePhotos();
        archive.join(1);
        archive.join(2);
        archive.save(0);
        archive.join(3);
        archive.restore(0);
        CHECKS.due("what could be undone is not saved", 3, archive.undo());
        CHECKS.due("families before restore", 5, archive.count(1));
        CHECKS.due("and before that", 2, archive.undo());
        CHECKS.due("families", 4, archive.count(1));
    }
}
