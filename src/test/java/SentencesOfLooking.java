/** The sentences of promises 5 to 23: what is answered without a change. */
final class SentencesOfLooking {
    private static final String TWO = "tiles 4;family a 9;family b 9;";
    private static final String ROW = "tiles 4;family a 9;family b 9;family c 9;family d 9;"
            + "near a b;near b c;near c d;";
    private static final String NO_PICTURE = "Throws `IndexOutOfBoundsException` if the picture does not exist";
    private static final int LONG = 70;
    private static final int[] FAR = {Integer.MIN_VALUE, Integer.MAX_VALUE, 256, 65536};

    private final Sentences s;
    private final Checks c;

    SentencesOfLooking(Sentences sentences) {
        s = sentences;
        c = sentences.checks;
    }

    void all() {
        count();
        family();
        picture();
        copy();
        why();
        chance();
        chanceRefused();
        bestTile();
        roundsToFind();
        leastTrusted();
        sources();
        wouldGet();
        waves();
        lost();
        depends();
        mostNeeded();
        reach();
        wouldSpread();
        bestPair();
        bestPairOfSeveral();
        soundness();
    }

    private interface OfCopy {
        Object answer(VillagePhotos archive, int picture, int family);
    }

    private interface OfPicture {
        int answer(VillagePhotos archive, int picture);
    }

    private void outside(OfCopy call) {
        s.edge("Throws `IndexOutOfBoundsException` if the picture or the family does not exist", () -> {
            VillagePhotos archive = s.good(TWO + "picture p pledge 1 by a;");
            c.outside("of two families", archive, (picture, family) -> call.answer(archive, picture, family));
            VillagePhotos none = new VillagePhotos();
            c.outsideOne("of no picture", 0, picture -> call.answer(none, picture, 0));
            VillagePhotos ten = s.good(SentencesOfTerms.families(10) + SentencesOfTerms.pictures(12));
            c.outside("of ten families", ten, (picture, family) -> call.answer(ten, picture, family));
        });
    }

    private void outsidePicture(OfPicture call) {
        s.edge(NO_PICTURE, () -> {
            VillagePhotos archive = s.good(TWO + "picture p pledge 1 by a;picture q pledge 1 by b;");
            c.outsideOne("of two", 2, picture -> call.answer(archive, picture));
            c.outsideOne("of none", 0, picture -> call.answer(new VillagePhotos(), picture));
            VillagePhotos twelve = s.good(TWO + SentencesOfTerms.pictures(12));
            c.outsideOne("of twelve", 12, picture -> call.answer(twelve, picture));
        });
    }

    private void count() {
        s.in("Promise 5");
        s.plain("Returns a number of the archive.");
        s.edge("0: tiles; 1: families; 2: pictures; 3: copies (also broken ones); 4: broken copies; "
                + "5: held copies that are not sound; 6: pictures in danger; 7: pictures truly in danger; "
                + "8: questions that were asked; 9: repairs that were made (also those of waves); "
                + "10: pairs of neighbours", () -> {
            VillagePhotos archive = s.good("tiles 5;family a 9;family b 9;family c 9;near a b;near b c;"
                    + "picture p pledge 2 by a spoiled 0 by b spoiled 1 by c;picture q pledge 3 by a by b spoiled 4;");
            due(archive, "at first", 5, 3, 2, 5, 0, 3, 1, 2, 0, 0, 2);
            archive.ask(0, 0, 0);
            due(archive, "one is broken", 5, 3, 2, 5, 1, 2, 1, 2, 1, 0, 2);
            archive.ask(1, 1, 4);
            due(archive, "two are broken", 5, 3, 2, 5, 2, 1, 1, 2, 2, 0, 2);
            archive.repair(1, 1);
            due(archive, "one is repaired", 5, 3, 2, 5, 1, 1, 1, 2, 2, 1, 2);
            archive.wave();
            due(archive, "and one by a wave", 5, 3, 2, 5, 0, 2, 1, 2, 2, 2, 2);
            archive.round(0);
            due(archive, "a round finds none", 5, 3, 2, 5, 0, 2, 1, 2, 7, 2, 2);
            archive.meet(0, 2);
            archive.spread();
            due(archive, "spread", 5, 3, 2, 6, 0, 2, 0, 1, 7, 2, 3);
            archive.leave(0);
            due(archive, "one left", 5, 2, 2, 4, 0, 1, 1, 2, 7, 2, 1);
        });
        s.edge("Throws `IllegalArgumentException` for any other what", () -> {
            VillagePhotos archive = s.good(TWO);
            c.refusesNumbers("count", archive::count, -1, -2, 11, 12);
            c.refusesNumbers("count", archive::count, FAR);
        });
    }

    private void due(VillagePhotos archive, String when, int... want) {
        for (int what = 0; what < want.length; what++) {
            c.due(when + ": count " + what, want[what], archive.count(what));
        }
    }

    private void family() {
        s.in("Promise 6");
        s.plain("Returns a number of a family.");
        s.edge("0: its room; 1: its copies (also broken ones); 2: its broken copies; 3: its right answers; "
                + "4: its wrong answers; 5: its trust; 6: its neighbours, as a set of bits", () -> {
            StringBuilder text = new StringBuilder(SentencesOfTerms.families(10));
            for (char name = 'a'; name < 'j'; name++) {
                text.append("near j ").append(name).append(';');
            }
            VillagePhotos archive = s.good(text + "picture p pledge 1 by j spoiled 0 by b;picture q pledge 1 by j;");
            int[][] first = {{1, 0, 0, 0, 0, 50, 512}, {2, 1, 0, 0, 0, 50, 512}, {10, 2, 0, 0, 0, 50, 511}};
            int[] numbers = {0, 1, 9};
            for (int k = 0; k < 3; k++) {
                dueOfFamily(archive, numbers[k], first[k]);
            }
            archive.ask(0, 9, 1);
            archive.ask(1, 9, 0);
            archive.ask(0, 9, 0);
            dueOfFamily(archive, 9, 10, 2, 1, 2, 1, 60, 511);
            dueOfFamily(archive, 1, 2, 1, 0, 0, 0, 50, 512);
        });
        s.edge("Throws `IndexOutOfBoundsException` if the family does not exist", () -> {
            VillagePhotos archive = s.good(TWO);
            c.outsideOne("family", 2, family -> archive.family(family, 0));
            c.outsideOne("family and what", 2, family -> archive.family(family, 7));
        });
        s.edge("Throws `IllegalArgumentException` for any other what", () -> {
            VillagePhotos archive = s.good(TWO);
            for (int number = 0; number < 2; number++) {
                int family = number;
                c.refusesNumbers("family", what -> archive.family(family, what), -1, -2, 7, 8);
                c.refusesNumbers("family", what -> archive.family(family, what), FAR);
            }
        });
    }

    private void dueOfFamily(VillagePhotos archive, int family, int... want) {
        for (int what = 0; what < want.length; what++) {
            c.due("family " + family + ", " + what, want[what], archive.family(family, what));
        }
    }

    private void picture() {
        s.in("Promise 7");
        s.plain("Returns a number of a picture.");
        s.edge("0: its pledge; 1: the families with a held copy, as a set of bits; 2: the families with a broken copy; "
                + "3: the families with a held copy that is sound; 4: 1 if it is in danger, otherwise 0; "
                + "5: 1 if it is truly in danger, otherwise 0", () -> {
            VillagePhotos archive = s.good(SentencesOfTerms.families(10)
                    + "picture p pledge 1 by a by j spoiled 3 by e spoiled 0;picture q pledge 10;");
            dueOfPicture(archive, 0, 1, 513 + 16, 0, 1, 0, 0);
            dueOfPicture(archive, 1, 10, 0, 0, 0, 1, 1);
            archive.ask(0, 9, 3);
            dueOfPicture(archive, 0, 1, 17, 512, 1, 0, 0);
            archive.setPledge(0, 2);
            dueOfPicture(archive, 0, 2, 17, 512, 1, 0, 1);
            archive.setPledge(0, 3);
            dueOfPicture(archive, 0, 3, 17, 512, 1, 1, 1);
        });
        s.edge(NO_PICTURE, () -> {
            VillagePhotos archive = s.good(TWO + SentencesOfTerms.pictures(12));
            c.outsideOne("picture", 12, picture -> archive.picture(picture, 0));
            c.outsideOne("picture and what", 12, picture -> archive.picture(picture, 6));
            c.outsideOne("picture of none", 0, picture -> new VillagePhotos().picture(picture, 0));
        });
        s.edge("Throws `IllegalArgumentException` for any other what", () -> {
            VillagePhotos archive = s.good(TWO + "picture p pledge 1;");
            c.refusesNumbers("picture", what -> archive.picture(0, what), -1, -2, 6, 7);
            c.refusesNumbers("picture", what -> archive.picture(0, what), FAR);
        });
    }

    private void dueOfPicture(VillagePhotos archive, int picture, int... want) {
        for (int what = 0; what < want.length; what++) {
            c.due("picture " + picture + ", " + what, want[what], archive.picture(picture, what));
        }
    }

    private void copy() {
        s.in("Promise 8");
        s.plain("Returns a copy.");
        s.edge("Returns its spoiled tiles, as a set of bits;", () -> {
            VillagePhotos archive = s.good("tiles 16;family a 9;family b 9;picture p pledge 1 by a by b spoiled 0 15;");
            c.due("a sound one", 0, archive.copy(0, 0));
            c.due("the first and the last tile", 32769, archive.copy(0, 1));
            archive.ask(0, 1, 15);
            c.due("of a broken one, too", 32769, archive.copy(0, 1));
        });
        s.edge("NONE if the family has no copy of it.", () -> {
            VillagePhotos archive = s.good(TWO + "picture p pledge 1 by a spoiled 0;picture q pledge 1 by b;");
            c.due("the other family", -1, archive.copy(0, 1));
            c.due("the other picture", -1, archive.copy(1, 0));
        });
        outside(VillagePhotos::copy);
    }

    private void why() {
        s.in("Promise 9");
        s.plain("Tells why a picture is not safe with a family.");
        String text = "tiles 16;family a 9;family b 9;picture p pledge 1 by a spoiled 15;picture q pledge 1 by b;";
        s.edge("Returns 0 if the family has a sound held copy;", () -> c.due("b", 0, s.good(text).why(1, 1)));
        s.edge("1 if it has no copy;", () -> {
            c.due("b has none of p", 1, s.good(text).why(0, 1));
            c.due("a has none of q", 1, s.good(text).why(1, 0));
        });
        s.edge("2 if the copy is broken;", () -> {
            VillagePhotos archive = s.good(text);
            archive.ask(0, 0, 15);
            c.due("a", 2, archive.why(0, 0));
        });
        s.edge("3 if it is held, but not sound.", () -> {
            VillagePhotos archive = s.good(text);
            c.due("one tile", 3, archive.why(0, 0));
            archive.harm(1, 1);
            c.due("harmed", 3, archive.why(1, 1));
        });
        outside(VillagePhotos::why);
    }

    private void chance() {
        s.in("Promise 10");
        s.plain("Tells how likely it is that questions would find that a copy is not sound");
        s.edge("- `questions`: 0 to the number of tiles", () -> {
            VillagePhotos archive = s.good(TWO + "picture p pledge 1 by a spoiled 0;");
            c.due("0 questions", 0.0, archive.chance(0, 0, 0));
            c.due("as many as tiles", 1.0, archive.chance(0, 0, 4));
        });
        s.edge("1.0 minus the product, for k from 0 to q - 1, of the doubles (n - s - k) / (n - k) in this order", () -> {
            for (int tiles : new int[] {4, 7, 16}) {
                StringBuilder spoiled = new StringBuilder();
                for (int many = 0; many <= tiles; many++) {
                    VillagePhotos archive = s.good("tiles " + tiles + ";family a 9;family b 9;picture p pledge 1 by a"
                            + spoiled + ";");
                    double product = 1.0;
                    for (int questions = 0; questions <= tiles; questions++) {
                        c.due(questions + " about " + many + " of " + tiles, 1.0 - product,
                                archive.chance(0, 0, questions));
                        if (questions < tiles) {
                            product *= (double) Math.max(0, tiles - many - questions) / (tiles - questions);
                        }
                    }
                    spoiled.append(many == 0 ? " spoiled " : " ").append(many);
                }
            }
        });
        s.edge("the product is 0.0 as soon as n - s - k is 0).", () -> {
            VillagePhotos all = s.good(TWO + "picture p pledge 1 by a spoiled 0 1 2 3 by b spoiled 1 2;");
            double[] ofAll = {0.0, 1.0, 1.0, 1.0, 1.0};
            double[] ofTwo = {0.0, 0.5, 1.0 - 1.0 * (2.0 / 4.0) * (1.0 / 3.0), 1.0, 1.0};
            for (int questions = 0; questions <= 4; questions++) {
                c.due("all are spoiled", ofAll[questions], all.chance(0, 0, questions));
                c.due("two are spoiled", ofTwo[questions], all.chance(0, 1, questions));
            }
        });
    }

    private void chanceRefused() {
        outside((archive, picture, family) -> archive.chance(picture, family, 99));
        Runnable refused = () -> {
            VillagePhotos archive = s.good(TWO + "picture p pledge 1 by a spoiled 0;");
            c.isThrown("no copy", IllegalStateException.class, () -> archive.chance(0, 1, 0));
            c.isThrown("no copy, nor so many tiles", IllegalStateException.class, () -> archive.chance(0, 1, 5));
            archive.ask(0, 0, 0);
            c.isThrown("a broken copy", IllegalStateException.class, () -> archive.chance(0, 0, 1));
            c.isThrown("a broken copy, nor so many tiles", IllegalStateException.class, () -> archive.chance(0, 0, -1));
        };
        s.edge("Throws `IllegalStateException` if there is no held copy", refused);
        s.edge("- `family`: number of a family with a held copy of it", refused);
        s.edge("Throws `IllegalArgumentException` if questions is out of range", () -> {
            for (int tiles : new int[] {4, 16}) {
                VillagePhotos archive = s.good("tiles " + tiles + ";family a 9;family b 9;picture p pledge 1 by a;");
                c.refusesNumbers("chance", questions -> archive.chance(0, 0, questions), -1, tiles + 1, tiles + 2);
                c.refusesNumbers("chance", questions -> archive.chance(0, 0, questions), FAR);
            }
        });
    }

    private void bestTile() {
        s.in("Promise 11");
        s.edge("Finds the tile of which most held copies of a picture are spoiled, of several the lowest one.", () -> {
            VillagePhotos archive = s.good("tiles 16;family a 9;family b 9;family c 9;"
                    + "picture p pledge 1 by a spoiled 0 15 by b spoiled 15;"
                    + "picture q pledge 1 by a spoiled 2 7 by b spoiled 2 7 by c spoiled 1;"
                    + "picture r pledge 1 by c spoiled 15;picture s pledge 1 by a spoiled 9 by b spoiled 8 by c spoiled 8;");
            c.due("the last tile, of two copies", 15, archive.bestTile(0));
            c.due("of two alike the lower one", 2, archive.bestTile(1));
            c.due("the last tile alone", 15, archive.bestTile(2));
            c.due("of one picture only", 8, archive.bestTile(3));
            archive.ask(3, 1, 8);
            c.due("of held copies only", 8, archive.bestTile(3));
            archive.ask(3, 2, 8);
            c.due("of the one that is held", 9, archive.bestTile(3));
            archive.harm(0, 1);
            c.due("the first tile", 0, archive.bestTile(3));
        });
        s.edge("NONE if no held copy has a spoiled tile.", () -> {
            VillagePhotos archive = s.good(TWO + "picture p pledge 1;picture q pledge 1 by a by b;"
                    + "picture r pledge 1 by a by b spoiled 0;");
            c.due("no copy", -1, archive.bestTile(0));
            c.due("sound ones", -1, archive.bestTile(1));
            archive.ask(2, 1, 0);
            c.due("a broken one", -1, archive.bestTile(2));
        });
        s.plain("Returns the tile;");
        outsidePicture(VillagePhotos::bestTile);
    }

    private void roundsToFind() {
        s.in("Promise 12");
        s.edge("each one going on with the x that the one before it ended with", () -> {
            // by 2147483647 the tiles are 9, 9, 6, 14, 9 and 2
            String text = "tiles 16;family a 9;family b 9;picture p pledge 1 by a spoiled ";
            int[][] due = {{9, 1}, {6, 3}, {14, 4}, {2, 6}};
            for (int[] row : due) {
                c.due("one question a round, tile " + row[0], row[1],
                        s.good(text + row[0] + ";").roundsToFind(2147483647));
            }
            c.due("the second one in the third round", 3, s.good(text + "9 by b spoiled 14;").roundsToFind(2147483647));
            c.due("a broken one takes no question", 2, s.good(text + "9 by b spoiled 6;").roundsToFind(2147483647));
        });
        s.edge("- `x`: 0 to 2147483647", () -> {
            VillagePhotos archive = s.good(TWO + "picture p pledge 1 by a spoiled 0 1 2 3;");
            c.due("the least", 1, archive.roundsToFind(0));
            c.due("the greatest", 1, archive.roundsToFind(2147483647));
        });
        s.edge("Returns how many, 0 if there are none such;", () -> {
            c.due("no copy", 0, new VillagePhotos().roundsToFind(1));
            VillagePhotos archive = s.good(TWO + "picture p pledge 1 by a by b spoiled 0;");
            c.due("by 0 b's tile 0 is asked about in the first round", 1, archive.roundsToFind(0));
            archive.ask(0, 1, 0);
            c.due("a broken one is found", 0, archive.roundsToFind(0));
        });
        s.edge("NONE if 60 rounds would not.", () -> {
            VillagePhotos archive = s.good("tiles 16;family a 9;family b 9;picture p pledge 1 by a spoiled 5;");
            boolean[] seen = new boolean[LONG + 1];
            for (int x = 0; x < 100000; x++) {
                int rounds = roundsToTile(x, 5);
                if (!seen[rounds]) {
                    seen[rounds] = true;
                    c.due("by " + x + ", " + rounds + " rounds", rounds > 60 ? -1 : rounds, archive.roundsToFind(x));
                }
            }
            for (int rounds : new int[] {1, 59, 60, 61, 62, LONG}) {
                c.due("some x takes " + rounds, true, seen[rounds]);
            }
            c.due("questions", 0, archive.count(8));
        });
        s.edge("Throws `IllegalArgumentException` if x is out of range", () -> {
            VillagePhotos archive = s.good(TWO + "picture p pledge 1 by a spoiled 0;");
            c.refusesNumbers("roundsToFind", archive::roundsToFind, -1, -2, -65536, Integer.MIN_VALUE);
        });
    }

    /** How many questions by x until one is about a tile of 16; LONG if that many would not do. */
    private static int roundsToTile(int x, int tile) {
        long number = x;
        for (int rounds = 1; rounds < LONG; rounds++) {
            number = (1103515245L * number + 12345L) % 2147483648L;
            if (number / 65536L % 16L == tile) {
                return rounds;
            }
        }
        return LONG;
    }

    private void leastTrusted() {
        s.in("Promise 13");
        s.edge("Finds the family with the least trust, of several the lowest one.", () -> {
            VillagePhotos archive = s.good(ROW + "picture p pledge 1 by a by b by c spoiled 0 by d spoiled 0;");
            c.due("all alike", 0, archive.leastTrusted());
            archive.ask(0, 0, 0);
            c.due("the first is trusted more", 1, archive.leastTrusted());
            archive.ask(0, 3, 0);
            c.due("the last is trusted less", 3, archive.leastTrusted());
            archive.ask(0, 2, 0);
            c.due("of two the lower one", 2, archive.leastTrusted());
        });
        s.plain("Returns the number of the family.");
    }

    private void sources() {
        s.in("Promise 14");
        s.edge("Returns the sources of a picture for a family.", () -> {
            StringBuilder text = new StringBuilder(SentencesOfTerms.families(10));
            for (char name = 'b'; name <= 'j'; name++) {
                text.append("near a ").append(name).append(';');
            }
            text.append("picture p pledge 1 by b spoiled 0");
            for (char name = 'c'; name <= 'j'; name++) {
                text.append(" by ").append(name);
            }
            VillagePhotos archive = s.good(text + ";picture q pledge 1 by a;picture r pledge 1;");
            c.due("nine of them", 1022, archive.sources(0, 0));
            archive.ask(0, 1, 0);
            c.due("eight of them", 1020, archive.sources(0, 0));
            c.due("not itself", 0, archive.sources(1, 0));
            c.due("one, for the last family", 1, archive.sources(1, 9));
            c.due("none", 0, archive.sources(2, 9));
        });
        outside(VillagePhotos::sources);
    }

    private void wouldGet() {
        s.in("Promise 15");
        s.edge("Returns what a family would get by its sources.", () -> {
            VillagePhotos archive = s.good(ROW + "picture p pledge 1 by a spoiled 0 1 by b spoiled 3 by c spoiled 1 2;");
            c.due("b, who has a copy", 2, archive.wouldGet(0, 1));
            c.due("d, who has none", 6, archive.wouldGet(0, 3));
            archive.ask(0, 1, 3);
            c.due("b, who has a broken one", 2, archive.wouldGet(0, 1));
            c.due("its copy is as it was", 8, archive.copy(0, 1));
        });
        s.edge("Returns the spoiled tiles of the copy, as a set of bits;", () -> {
            VillagePhotos archive = s.good("tiles 16;family a 9;family b 9;near a b;picture p pledge 1 by a spoiled 0 15;"
                    + "picture q pledge 1 by a;");
            c.due("the first and the last tile", 32769, archive.wouldGet(0, 1));
            c.due("a sound one", 0, archive.wouldGet(1, 1));
            archive.harm(0, 65535);
            c.due("all tiles", 65535, archive.wouldGet(1, 1));
        });
        s.edge("NONE without a source.", () -> {
            VillagePhotos archive = s.good(ROW + "picture p pledge 1 by a spoiled 0;picture q pledge 1;");
            c.due("too far", -1, archive.wouldGet(0, 2));
            c.due("by itself", -1, archive.wouldGet(0, 0));
            c.due("no copy", -1, archive.wouldGet(1, 0));
            archive.ask(0, 0, 0);
            c.due("by a broken one", -1, archive.wouldGet(0, 1));
        });
        outside(VillagePhotos::wouldGet);
    }

    private void waves() {
        s.in("Promise 16");
        s.edge("Returns how many waves would be needed until no broken copy is left that can be repaired.", () -> {
            StringBuilder text = new StringBuilder(SentencesOfTerms.families(10));
            for (char name = 'a'; name < 'j'; name++) {
                text.append("near ").append(name).append(' ').append((char) (name + 1)).append(';');
            }
            text.append("picture p pledge 1 by a");
            for (char name = 'b'; name <= 'j'; name++) {
                text.append(" by ").append(name).append(" spoiled 0");
            }
            VillagePhotos archive = s.good(text + ";");
            for (int family = 1; family < 10; family++) {
                archive.ask(0, family, 0);
            }
            c.due("one after the other", 9, archive.waves());
            c.due("nothing was repaired", 9, archive.count(4));
            archive.wave();
            c.due("one fewer", 8, archive.waves());
        });
        s.edge("0 if none can be repaired now.", () -> {
            c.due("no picture", 0, new VillagePhotos().waves());
            VillagePhotos archive = s.good(ROW + "picture p pledge 1 by a by d spoiled 0;");
            c.due("none is broken", 0, archive.waves());
            archive.ask(0, 3, 0);
            c.due("no source", 0, archive.waves());
            archive.meet(0, 3);
            c.due("a source", 1, archive.waves());
        });
        s.plain("Returns how many;");
    }

    private void lost() {
        s.in("Promise 17");
        s.edge("Returns how many broken copies would be left behind so many waves.", () -> {
            c.due("no picture", 0, new VillagePhotos().lost());
            VillagePhotos archive = s.good(ROW + "picture p pledge 1 by a spoiled 0 by b spoiled 0 by c;"
                    + "picture q pledge 1 by a by d spoiled 0;picture r pledge 1 by a spoiled 0 by b spoiled 0;");
            c.due("none is broken", 0, archive.lost());
            archive.ask(0, 0, 0);
            archive.ask(0, 1, 0);
            c.due("two that can be repaired", 0, archive.lost());
            archive.ask(1, 3, 0);
            c.due("one too far away", 1, archive.lost());
            archive.ask(2, 0, 0);
            c.due("one beside one that is held, though spoiled", 1, archive.lost());
            archive.ask(2, 1, 0);
            c.due("all of a picture", 3, archive.lost());
            c.due("none was repaired", 5, archive.count(4));
        });
    }

    private void depends() {
        s.in("Promise 18");
        s.edge("those with a held copy without which it would be in danger (it is not in danger now), and, of a picture "
                + "that is in danger, none.", () -> {
            VillagePhotos archive = s.good(SentencesOfTerms.families(10)
                    + "picture p pledge 2 by a by j spoiled 0;picture q pledge 1;");
            int[] want = {0, 0, 513, 0};
            for (int pledge = 1; pledge <= 3; pledge++) {
                archive.setPledge(0, pledge);
                c.due("two copies, pledge " + pledge, want[pledge], archive.depends(0));
            }
            c.due("no copy", 0, archive.depends(1));
            archive.setPledge(0, 1);
            archive.ask(0, 9, 0);
            c.due("no broken one", 1, archive.depends(0));
        });
        outsidePicture(VillagePhotos::depends);
    }

    private void mostNeeded() {
        s.in("Promise 19");
        s.edge("Finds the family without which most pictures would be in danger that are not in danger now, of several "
                + "the lowest one.", () -> {
            VillagePhotos archive = s.good(ROW + "picture p pledge 1 by d;picture q pledge 2 by b by c;"
                    + "picture r pledge 1 by d;picture s pledge 2 by a;picture t pledge 1 by a by b;");
            c.due("the last one, for two", 3, archive.mostNeeded());
            archive.setPledge(4, 2);
            c.due("of two the lower one", 1, archive.mostNeeded());
            archive.setPledge(3, 1);
            c.due("of three the lowest one", 0, archive.mostNeeded());
        });
        s.edge("NONE if there is none without which a picture would be.", () -> {
            c.due("no picture", -1, new VillagePhotos().mostNeeded());
            VillagePhotos archive = s.good(ROW + "picture p pledge 1;picture q pledge 3 by a by b;"
                    + "picture r pledge 1 by a by b;");
            c.due("in danger, or more than pledged", -1, archive.mostNeeded());
            archive.setPledge(2, 2);
            c.due("just as many as pledged", 0, archive.mostNeeded());
        });
        s.plain("Returns the number of the family;");
    }

    private void reach() {
        s.in("Promise 20");
        s.plain("Returns how many families a picture could ever come to by copies");
        s.edge("those that can be reached from a family with a held copy of it by neighbours (whatever room there is), "
                + "these families themselves included.", () -> {
            StringBuilder up = new StringBuilder("tiles 4;");
            StringBuilder near = new StringBuilder();
            for (char name = 'a'; name <= 'j'; name++) {
                up.append("family ").append(name).append(" 2;");
                near.append(name == 'j' ? "" : "near " + name + ' ' + (char) (name + 1) + ';');
            }
            VillagePhotos row = s.good(up + near.toString() + "picture p pledge 1 by a by j;picture q pledge 1 by a;"
                    + "picture r pledge 1 by j;picture s pledge 1 by e spoiled 0;picture t pledge 1;");
            c.due("from both ends, without room", 10, row.reach(0));
            c.due("from the first, in nine steps", 10, row.reach(1));
            c.due("from the last, in nine steps", 10, row.reach(2));
            c.due("from the middle", 10, row.reach(3));
            c.due("from nowhere", 0, row.reach(4));
            row.ask(3, 4, 0);
            c.due("from a broken one", 0, row.reach(3));
            row.leave(5);
            c.due("in the first half", 5, row.reach(1));
            c.due("in the second half", 4, row.reach(2));
            c.due("in both halves", 9, row.reach(0));
            VillagePhotos alone = s.good(TWO + "picture p pledge 1 by b;");
            c.due("the family itself", 1, alone.reach(0));
        });
        outsidePicture(VillagePhotos::reach);
    }

    private void wouldSpread() {
        s.in("Promise 21");
        s.edge("Returns how many copies spread() would make now.", () -> {
            c.due("no picture", 0, new VillagePhotos().wouldSpread());
            VillagePhotos archive = s.good(ROW + "picture p pledge 3 by a;picture q pledge 10 by c spoiled 0;");
            c.due("two and three", 5, archive.wouldSpread());
            c.due("none was made", 2, archive.count(3));
            c.due("again", 5, archive.wouldSpread());
            archive.setPledge(0, 1);
            c.due("none and three", 3, archive.wouldSpread());
            archive.ask(1, 2, 0);
            c.due("no source", 0, archive.wouldSpread());
            c.due("load, setPledge and ask are the changes", 2, archive.undo());
        });
    }

    private void bestPair() {
        s.in("Promise 22");
        s.edge("Finds the pair of families that are no neighbours for which, if they were neighbours, the fewest pictures "
                + "would be in danger behind spread();", () -> {
            VillagePhotos archive = s.good("tiles 4;family a 9;family b 9;family c 9;family d 9;"
                    + "picture p pledge 2 by a;picture q pledge 2 by c;picture r pledge 2 by d;picture s pledge 1 by d;");
            c.due("c and a save two, as c and d do", 2, archive.bestPair());
            c.due("they are no neighbours now", 0, archive.count(10));
            c.due("nothing was made", 4, archive.count(3));
            archive.setPledge(0, 1);
            c.due("c and d save two, others one", 23, archive.bestPair());
            archive.meet(2, 3);
            c.due("nothing is in danger behind spread", -1, archive.bestPair());
        });
        s.edge("only if it would be fewer than behind spread() as it is.", () -> {
            VillagePhotos enough = s.good(TWO + "near a b;picture p pledge 2 by a;");
            c.due("spread is enough", -1, enough.bestPair());
            VillagePhotos never = s.good(TWO + "picture p pledge 3 by a;");
            c.due("no pair is enough", -1, never.bestPair());
            VillagePhotos once = s.good(TWO + "picture p pledge 2 by a;");
            c.due("the only pair", 1, once.bestPair());
        });
        s.edge("NONE if there is none such.", () -> {
            c.due("no picture", -1, new VillagePhotos().bestPair());
            VillagePhotos all = s.good(TWO + "near b a;picture p pledge 3 by a;");
            c.due("all are neighbours", -1, all.bestPair());
            c.due("no held copy", -1, s.good(TWO + "picture p pledge 1;").bestPair());
        });
    }

    private void bestPairOfSeveral() {
        s.edge("of several the pair with the lowest first family, of these with the lowest other one;", () -> {
            VillagePhotos first = s.good("tiles 4;family a 9;family b 9;family c 9;family d 9;picture p pledge 2 by b;");
            c.due("a and b, before b and c", 1, first.bestPair());
            first.leave(0);
            c.due("then a and b, who were b and c", 1, first.bestPair());
            VillagePhotos other = s.good("tiles 4;family a 9;family b 9;family c 9;family d 9;near a b;"
                    + "picture p pledge 3 by a;");
            c.due("a and c, before a and d and b and c", 2, other.bestPair());
            VillagePhotos later = s.good("tiles 4;family a 1;family b 9;family c 9;family d 9;"
                    + "picture o pledge 1 by a;picture p pledge 2 by d;");
            c.due("b and d, before c and d; a has no room", 13, later.bestPair());
        });
        s.edge("Returns 10 times the lower family, plus the other one;", () -> {
            StringBuilder text = new StringBuilder("tiles 4;");
            StringBuilder full = new StringBuilder();
            for (char name = 'a'; name <= 'j'; name++) {
                text.append("family ").append(name).append(name < 'i' ? " 1;" : " 2;");
                full.append("picture ").append(name).append(" pledge 1 by ").append(name).append(';');
            }
            VillagePhotos archive = s.good(text + full.toString());
            c.due("no pair", -1, archive.bestPair());
            archive.setPledge(9, 2);
            c.due("i and j", 89, archive.bestPair());
            archive.setPledge(9, 1);
            archive.setPledge(0, 2);
            c.due("a and i", 8, archive.bestPair());
        });
    }

    private void soundness() {
        s.in("Promise 23");
        s.plain("Returns how sound the held copies are.");
        s.edge("Returns the held copies that are sound divided by the held copies, both converted to float;", () -> {
            VillagePhotos archive = s.good(ROW + "picture p pledge 1 by a by b spoiled 0 by c spoiled 1;");
            c.due("one of three", 1.0f / 3.0f, archive.soundness());
            archive.ask(0, 1, 0);
            c.due("one of two", 0.5f, archive.soundness());
            archive.ask(0, 2, 1);
            c.due("one of one", 1.0f, archive.soundness());
            archive.harm(0, 8);
            c.due("none of one", 0.0f, archive.soundness());
        });
        s.edge("0 without held ones.", () -> {
            c.due("no copy", 0.0f, new VillagePhotos().soundness());
            VillagePhotos archive = s.good(TWO + "picture p pledge 1 by a spoiled 0;");
            archive.ask(0, 0, 0);
            c.due("a broken one", 0.0f, archive.soundness());
        });
    }
}
