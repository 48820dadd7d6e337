/** The sentences of terms 5 and 6: what is a change, what is refused and what is thrown. */
final class SentencesOfRules {
    private static final String TWO = "tiles 4;family a 9;family b 9;";
    private static final String ROW = "tiles 4;family a 9;family b 9;family c 9;family d 9;"
            + "near a b;near b c;near c d;";

    private interface OnArchive {
        Object answer(VillagePhotos archive);
    }

    private final Sentences s;
    private final Checks c;

    SentencesOfRules(Sentences sentences) {
        s = sentences;
        c = sentences.checks;
    }

    void all() {
        changes();
        noChanges();
        eightChanges();
        whatUndoLeaves();
        refusals();
        thrown();
        firstThrown();
        whatDoesNotExist();
        constants();
    }

    /** An archive with a broken copy, behind two changes: load and ask. */
    private VillagePhotos broken() {
        VillagePhotos archive = s.good(ROW + "picture p pledge 2 by a spoiled 0 by b;picture q pledge 3 by c by d;");
        archive.ask(0, 0, 0);
        return archive;
    }

    /** A call that succeeds is one change, and undo brings back what was before it. */
    private void isChange(String name, VillagePhotos archive, int changesBefore, OnArchive change) {
        String before = UndoTest.seen(archive);
        c.due(name + " succeeds", true, (int) change.answer(archive) >= 0);
        c.due(name + " is one change", changesBefore, archive.undo());
        c.due("undone: " + name, before, UndoTest.seen(archive));
    }

    private void changes() {
        s.in("Term 5");
        s.edge("The changes are all calls of load, ask, round, harm, repair, wave, spread, join, meet, leave, setPledge",
                () -> {
            isChange("load", broken(), 2, a -> Texts.load(a, "tiles 5;family x 1;family y 1;picture z pledge 1 by x;"));
            isChange("a right answer", broken(), 2, a -> a.ask(0, 1, 0));
            VillagePhotos harmed = broken();
            harmed.harm(1, 1);
            isChange("a wrong answer", harmed, 3, a -> a.ask(0, 1, 0));
            isChange("round", broken(), 2, a -> a.round(5));
            isChange("harm", broken(), 2, a -> a.harm(1, 9));
            isChange("repair", broken(), 2, a -> a.repair(0, 0));
            isChange("wave", broken(), 2, VillagePhotos::wave);
            isChange("spread", broken(), 2, VillagePhotos::spread);
            isChange("join", broken(), 2, a -> a.join(1));
            isChange("meet", broken(), 2, a -> a.meet(0, 3));
            isChange("leave", broken(), 2, a -> a.leave(0));
            isChange("setPledge", broken(), 2, a -> a.setPledge(0, 10));
        });
        s.edge("and restore that succeed (also if nothing is another one then;", () -> {
            VillagePhotos saved = broken();
            saved.save(1);
            isChange("restore of the same", saved, 2, a -> a.restore(1));
            saved.wave();
            isChange("restore", saved, 3, a -> a.restore(1));
            isChange("load of the same", s.good(TWO), 1, a -> Texts.load(a, TWO));
            isChange("a round of no question", new VillagePhotos(), 0, a -> a.round(0));
            isChange("harm of no copy", new VillagePhotos(), 0, a -> a.harm(0, 1));
            isChange("harm of a spoiled tile", broken(), 2, a -> a.harm(0, 1));
            isChange("a wave of no repair", new VillagePhotos(), 0, VillagePhotos::wave);
            isChange("a spread of no copy", new VillagePhotos(), 0, VillagePhotos::spread);
            isChange("the pledge that was", broken(), 2, a -> a.setPledge(0, 2));
        });
    }

    private void noChanges() {
        s.edge("a text with an error is no change, nor is a refusal).", () -> {
            VillagePhotos archive = broken();
            c.due("a text with an error", -3, Texts.load(archive, "tiles 3;"));
            c.due("ask of none", -11, archive.ask(0, 2, 0));
            c.due("ask of a broken one", -12, archive.ask(0, 0, 0));
            c.due("repair of none", -11, archive.repair(0, 2));
            c.due("repair of a held one", -13, archive.repair(0, 1));
            c.due("meet", -16, archive.meet(0, 1));
            look(archive);
            c.due("load is left to undo", 1, archive.undo());
            VillagePhotos two = s.good(TWO + "picture p pledge 1 by a spoiled 0;");
            c.due("leave", -17, two.leave(0));
            two.ask(0, 0, 0);
            c.due("repair without a source", -14, two.repair(0, 0));
            c.due("load is left to undo", 1, two.undo());
            VillagePhotos ten = s.good(SentencesOfTerms.families(10));
            c.due("join", -15, ten.join(1));
            c.due("nothing is left to undo", 0, ten.undo());
        });
    }

    /** All calls that are no change whatever they answer, but undo. */
    private static void look(VillagePhotos archive) {
        archive.append(1, 1, 1, 1, 1);
        archive.errorPosition();
        UndoTest.seen(archive);
        archive.why(0, 0);
        archive.chance(0, 1, 1);
        archive.bestTile(0);
        archive.roundsToFind(1);
        archive.leastTrusted();
        archive.sources(0, 0);
        archive.wouldGet(0, 0);
        archive.waves();
        archive.lost();
        archive.depends(0);
        archive.mostNeeded();
        archive.reach(0);
        archive.wouldSpread();
        archive.bestPair();
        archive.soundness();
        archive.save(0);
        archive.save(1);
        archive.writePictures();
        archive.writtenByte(0);
    }

    private void eightChanges() {
        s.edge("The latest 8 changes can be undone, older ones cannot any more;", () -> {
            for (int changes = 1; changes <= 20; changes++) {
                VillagePhotos archive = s.good(TWO + "picture p pledge 10;");
                for (int change = 2; change <= changes; change++) {
                    archive.setPledge(0, change % 10 + 1);
                }
                int many = Math.min(changes, 8);
                for (int left = many - 1; left >= 0; left--) {
                    c.due("left of " + changes, left, archive.undo());
                }
                c.isThrown("one more of " + changes, IllegalStateException.class, archive::undo);
                int oldest = changes - many;
                c.due("pictures behind the oldest that stays", oldest == 0 ? 0 : 1, archive.count(2));
                if (oldest > 0) {
                    c.due("pledge", oldest == 1 ? 10 : oldest % 10 + 1, archive.picture(0, 0));
                }
            }
        });
    }

    private void whatUndoLeaves() {
        s.edge("undoing a change brings back everything as it was before it, but not the text buffer, the position of the "
                + "error, the written text and what was saved.", () -> {
            VillagePhotos archive = broken();
            archive.repair(0, 0);
            archive.leave(1);
            String before = UndoTest.seen(archive);
            String written = Texts.written(archive);
            Texts.load(archive, "tiles 5;family x 3;family y 4;picture zz pledge 2 by y;");
            archive.spread();
            archive.save(0);
            Texts.append(archive, "tiles 3;");
            archive.load();
            Texts.append(archive, "tiles 6;family v 1;");
            archive.writePictures();
            archive.undo();
            archive.undo();
            c.due("the position of the error", 6, archive.errorPosition());
            c.due("the written text", (int) 'z', archive.writtenByte(1));
            c.isThrown("no more of it", IndexOutOfBoundsException.class, () -> archive.writtenByte(5));
            c.due("everything", before, UndoTest.seen(archive));
            c.due("names, too", written, Texts.written(archive));
            c.due("the text buffer", 30, Texts.append(archive, "family w 1;"));
            c.due("what was saved", 2, archive.restore(0));
            c.due("its tiles", 5, archive.count(0));
            c.due("its pictures", "zz:y*", Texts.written(archive));
            c.due("load of the buffer", 0, archive.load());
            archive.undo();
            c.due("no error, behind undo", -1, archive.errorPosition());
            c.due("the buffer stays empty", 1, archive.append(0, 0, 0, 0, 1));
        });
    }

    private void refused(String name, VillagePhotos archive, int want, OnArchive call) {
        String before = UndoTest.seen(archive);
        c.due(name, want, call.answer(archive));
        c.due("what is behind " + name, before, UndoTest.seen(archive));
    }

    private void refusals() {
        s.edge("Refused calls return -10 minus the reason;", () -> {
            VillagePhotos ten = s.good(SentencesOfTerms.families(10));
            refused("the least reason", broken(), -11, a -> a.ask(1, 0, 0));
            refused("the greatest reason", s.good(TWO), -17, a -> a.leave(1));
            refused("another one", ten, -15, a -> a.join(1));
        });
        s.edge("the lowest one is told: 1 there is no such copy;", () -> {
            refused("ask", broken(), -11, a -> a.ask(0, 3, 0));
            refused("repair without a source", broken(), -11, a -> a.repair(0, 3));
            refused("repair with a source", broken(), -11, a -> a.repair(0, 2));
        });
        s.edge("2 the copy is broken;", () -> {
            refused("ask about a spoiled tile", broken(), -12, a -> a.ask(0, 0, 0));
            refused("ask about another tile", broken(), -12, a -> a.ask(0, 0, 3));
        });
        s.edge("3 the copy is held;", () -> {
            refused("repair without a source", broken(), -13, a -> a.repair(0, 1));
            refused("repair with a source", broken(), -13, a -> a.repair(1, 3));
        });
        s.edge("4 there is no source;", () -> {
            VillagePhotos archive = broken();
            archive.harm(1, 15);
            archive.ask(0, 1, 1);
            refused("a neighbour's copy is broken, too", archive, -14, a -> a.repair(0, 0));
            VillagePhotos far = s.good(TWO + "picture p pledge 1 by a spoiled 0 by b;");
            far.ask(0, 0, 0);
            refused("no neighbour", far, -14, a -> a.repair(0, 0));
        });
        s.edge("5 there are 10 families;", () -> {
            VillagePhotos archive = s.good(SentencesOfTerms.families(9));
            c.due("nine", 9, archive.join(1));
            refused("ten", archive, -15, a -> a.join(20));
        });
        s.edge("6 both are neighbours;", () -> {
            refused("as they were told", broken(), -16, a -> a.meet(2, 3));
            refused("the other way round", broken(), -16, a -> a.meet(3, 2));
        });
        s.edge("7 there are 2 families.", () -> {
            VillagePhotos archive = s.good(TWO + "family c 1;");
            c.due("three", 0, archive.leave(0));
            refused("the first of two", archive, -17, a -> a.leave(0));
            refused("the last of two", archive, -17, a -> a.leave(1));
        });
    }

    private void thrown() {
        s.in("Term 6");
        s.edge("A method that throws an exception changes nothing.", () -> {
            VillagePhotos archive = broken();
            archive.save(0);
            Texts.load(archive, "tiles 3;");
            String text = TWO + " ".repeat(570 - TWO.length());
            Texts.append(archive, text);
            int written = archive.writePictures();
            String before = UndoTest.seen(archive);
            c.isThrown("append", IllegalStateException.class, () -> appendForty(archive));
            throwAll(archive);
            c.due("the written text", (int) '*', archive.writtenByte(written - 1));
            c.due("everything", before, UndoTest.seen(archive));
            c.due("the position of the error", 6, archive.errorPosition());
            c.due("the text buffer", 590, archive.append(0, 0, 0, 0, 0));
            c.due("it is read", 0, archive.load());
            c.due("what was saved", 4, archive.restore(0));
            c.due("restore, load, ask and load can be undone", 3, archive.undo());
            c.isThrown("nothing is saved there", IllegalStateException.class, () -> archive.restore(1));
        });
    }

    /** Twenty bytes that fit behind 570, and twenty that do not. */
    private static int appendForty(VillagePhotos archive) {
        archive.append(0x20202020, 0x20202020, 0x20202020, 0x20202020, 0x20202020);
        return archive.append(0x20202020, 0x20202020, 0x20202020, 0x20202020, 0x20202020);
    }

    private void throwAll(VillagePhotos archive) {
        OnArchive[] calls = {
            a -> a.count(11), a -> a.family(0, 7), a -> a.family(4, 0), a -> a.picture(0, 6), a -> a.picture(2, 0),
            a -> a.copy(0, 4), a -> a.why(2, 0), a -> a.chance(0, 0, 1), a -> a.chance(0, 1, 5), a -> a.bestTile(2),
            a -> a.roundsToFind(-1), a -> a.sources(0, 4), a -> a.wouldGet(2, 0), a -> a.depends(2), a -> a.reach(2),
            a -> a.ask(2, 0, 0), a -> a.ask(0, 4, 0), a -> a.ask(0, 1, 4), a -> a.ask(0, 1, -1), a -> a.round(-1),
            a -> a.harm(4, 1), a -> a.harm(1, 0), a -> a.harm(1, 16), a -> a.harm(1, 17), a -> a.repair(0, 4),
            a -> a.repair(2, 0), a -> a.join(0), a -> a.join(21), a -> a.meet(0, 4), a -> a.meet(4, 0),
            a -> a.meet(3, 3), a -> a.leave(4), a -> a.leave(-1), a -> a.setPledge(2, 1), a -> a.setPledge(0, 0),
            a -> a.setPledge(0, 11), a -> a.restore(2), a -> a.restore(-1), a -> a.restore(1), a -> a.writtenByte(-1),
            a -> a.writtenByte(600),
        };
        for (int k = 0; k < calls.length; k++) {
            OnArchive call = calls[k];
            Object outcome = Checks.outcome(() -> call.answer(archive));
            c.due("call " + k + " throws", true, outcome.toString().startsWith("throws "));
        }
        c.isThrown("save", IndexOutOfBoundsException.class, () -> {
            archive.save(2);
            return 0;
        });
    }

    private void firstThrown() {
        s.edge("If several exceptions apply, the one named first is thrown.", () -> {
            VillagePhotos archive = broken();
            c.isThrown("family", IndexOutOfBoundsException.class, () -> archive.family(4, 7));
            c.isThrown("picture", IndexOutOfBoundsException.class, () -> archive.picture(2, 6));
            c.isThrown("chance of no picture", IndexOutOfBoundsException.class, () -> archive.chance(2, 0, 5));
            c.isThrown("chance of no family", IndexOutOfBoundsException.class, () -> archive.chance(0, 4, -1));
            c.isThrown("chance of no copy", IllegalStateException.class, () -> archive.chance(0, 2, 5));
            c.isThrown("chance of a broken copy", IllegalStateException.class, () -> archive.chance(0, 0, -1));
            c.isThrown("harm", IndexOutOfBoundsException.class, () -> archive.harm(4, 0));
            c.isThrown("harm by 16", IndexOutOfBoundsException.class, () -> archive.harm(-1, 16));
            c.isThrown("meet", IndexOutOfBoundsException.class, () -> archive.meet(4, 4));
            c.isThrown("setPledge", IndexOutOfBoundsException.class, () -> archive.setPledge(2, 11));
            c.isThrown("restore", IndexOutOfBoundsException.class, () -> archive.restore(2));
            // what is refused is looked at behind what is thrown
            c.isThrown("ask of no copy", IndexOutOfBoundsException.class, () -> archive.ask(0, 2, 4));
            c.isThrown("join of an 11th", IllegalArgumentException.class,
                    () -> s.good(SentencesOfTerms.families(10)).join(21));
            c.isThrown("leave of two", IndexOutOfBoundsException.class, () -> s.good(TWO).leave(2));
        });
    }

    private void whatDoesNotExist() {
        s.edge("An IndexOutOfBoundsException is thrown if a family, picture, tile or other thing with a number does not exist.",
                () -> {
            VillagePhotos archive = broken();
            archive.writePictures();
            c.outsideOne("a family", 4, family -> archive.family(family, 0));
            c.outsideOne("a family that harms", 4, family -> archive.harm(family, 1));
            c.outsideOne("a family that leaves", 4, archive::leave);
            c.outsideOne("a family that is met", 4, family -> archive.meet(0, family));
            c.outsideOne("a picture", 2, picture -> archive.picture(picture, 0));
            c.outsideOne("a picture's pledge", 2, picture -> archive.setPledge(picture, 1));
            c.outsideOne("a tile", 4, tile -> archive.ask(0, 1, tile));
            c.outsideOne("a slot", 2, archive::restore);
            c.outsideOne("a byte", archive.writePictures(), archive::writtenByte);
            archive.leave(0);
            c.outsideOne("a family behind the last one", 3, family -> archive.copy(0, family));
            archive.undo();
            c.due("the one that came back", -1, archive.copy(0, 3));
        });
    }

    private void constants() {
        s.edge("`NONE = -1`: The value -1: there is none.", () -> c.due("NONE", -1, VillagePhotos.NONE));
        s.edge("`SYNTAX_ERROR = -2`", () -> c.due("a code", -2, VillagePhotos.SYNTAX_ERROR));
        s.edge("`VALUE_ERROR = -3`", () -> c.due("a code", -3, VillagePhotos.VALUE_ERROR));
        s.edge("`UNKNOWN = -4`", () -> c.due("a code", -4, VillagePhotos.UNKNOWN));
        s.edge("`TWICE = -5`", () -> c.due("a code", -5, VillagePhotos.TWICE));
        s.edge("`NO_ROOM = -6`", () -> c.due("a code", -6, VillagePhotos.NO_ROOM));
        s.edge("`TOO_MANY = -7`", () -> c.due("a code", -7, VillagePhotos.TOO_MANY));
    }
}
