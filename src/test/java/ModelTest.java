/** Long runs of calls by dice, each answer compared with the one of the Model. */
public final class ModelTest {
    private static final Checks CHECKS = new Checks();
    private static final int RUNS = 1500;
    private static final int CALLS_OF_A_RUN = 512;

    private final Dice dice;
    private final ThrownTexts texts;
    private final VillagePhotos real = new VillagePhotos();
    private final Model model = new Model();
    private final String name;
    private int calls = 0;

    private ModelTest(int run) {
        dice = new Dice(run);
        texts = new ThrownTexts(dice);
        name = "run " + run;
    }

    public static void main(String[] args) {
        for (int run = 1; run <= RUNS; run++) {
            new ModelTest(run).play();
        }
        CHECKS.end("ModelTest");
    }

    private void play() {
        if (!dice.oneOf(20)) {
            loadText();
        }
        while (calls < CALLS_OF_A_RUN) {
            int before = calls;
            if (dice.oneOf(model.count(2) == 0 ? 6 : 150)) {
                loadText();
            } else if (dice.oneOf(20)) {
                breakSome();
            } else if (dice.oneOf(3)) {
                change();
            } else {
                look();
            }
            if (calls == before) {
                calls++;
            }
        }
    }

    private void both(String call, Checks.Call ofReal, Checks.Call ofModel) {
        if (calls >= CALLS_OF_A_RUN) {
            return;
        }
        calls++;
        CHECKS.due(name + ", call " + calls + ": " + call, Checks.outcome(ofModel), Checks.outcome(ofReal));
    }

    private void loadText() {
        String text = texts.text();
        for (int at = 0; at < text.length(); at += 20) {
            append(text.substring(at, Math.min(at + 20, text.length())));
        }
        if (dice.oneOf(200)) {
            append("                    ");
        }
        both("load of " + text, real::load, model::load);
        both("errorPosition", real::errorPosition, model::errorPosition);
    }

    private void append(String bytes) {
        int[] words = new int[5];
        int place = 0;
        int spare = 20 - bytes.length();
        for (int k = 0; k < bytes.length(); k++) {
            if (spare > 0 && dice.oneOf(3)) {
                place++;
                spare--;
            }
            words[place / 4] |= bytes.charAt(k) << (24 - 8 * (place % 4));
            place++;
        }
        both("append", () -> real.append(words[0], words[1], words[2], words[3], words[4]),
                () -> model.append(bytes));
    }

    /** Questions about tiles that are spoiled. */
    private void breakSome() {
        for (int p = 0; p < model.count(2); p++) {
            for (int f = 0; f < model.count(1); f++) {
                if (model.why(p, f) == 3 && dice.oneOf(2)) {
                    int tile = Integer.numberOfTrailingZeros(model.copy(p, f));
                    int picture = p;
                    int family = f;
                    both("ask " + p + " " + f + " " + tile, () -> real.ask(picture, family, tile),
                            () -> model.ask(picture, family, tile));
                }
            }
        }
    }

    /** A family that has a copy of a picture, broken ones first, if there is one. */
    private int holder(int picture) {
        int any = dice.about(model.count(1));
        if (picture < 0 || picture >= model.count(2) || dice.oneOf(3)) {
            return any;
        }
        int holders = model.picture(picture, 2) != 0 ? model.picture(picture, 2) : model.picture(picture, 1);
        return holders == 0 ? any : Integer.numberOfTrailingZeros(holders);
    }

    private void change() {
        int p = dice.about(model.count(2));
        int f = dice.oneOf(2) ? dice.about(model.count(1)) : holder(p);
        int g = dice.about(model.count(1));
        int x = dice.anyInt() & (dice.oneOf(50) ? -1 : Integer.MAX_VALUE);
        switch (dice.next(16)) {
            case 0, 1 -> {
                int tile = dice.oneOf(2) && p >= 0 && p < model.count(2) ? Math.max(0, model.bestTile(p))
                        : dice.about(model.count(0));
                both("ask " + p + " " + f + " " + tile, () -> real.ask(p, f, tile), () -> model.ask(p, f, tile));
            }
            case 2 -> both("round " + x, () -> real.round(x), () -> model.round(x));
            case 3 -> {
                int tiles = dice.oneOf(20) ? x : 1 << dice.about(model.count(0)) | 1 << dice.about(model.count(0));
                both("harm " + f + " " + tiles, () -> real.harm(f, tiles), () -> model.harm(f, tiles));
            }
            case 4, 5 -> both("repair " + p + " " + f, () -> real.repair(p, f), () -> model.repair(p, f));
            case 6 -> both("wave", real::wave, model::wave);
            case 7 -> both("spread", real::spread, model::spread);
            case 8 -> {
                int room = dice.about(20) + 1;
                both("join " + room, () -> real.join(room), () -> model.join(room));
            }
            case 9, 10 -> both("meet " + f + " " + g, () -> real.meet(f, g), () -> model.meet(f, g));
            case 11 -> both("leave " + f, () -> real.leave(f), () -> model.leave(f));
            case 12 -> {
                int pledge = dice.about(10) + 1;
                both("setPledge " + p + " " + pledge, () -> real.setPledge(p, pledge),
                        () -> model.setPledge(p, pledge));
            }
            case 13, 14 -> both("undo", real::undo, model::undo);
            default -> saveOrRestore();
        }
        if (dice.oneOf(2)) {
            written();
        }
    }

    private void saveOrRestore() {
        int slot = dice.about(2);
        if (dice.oneOf(2)) {
            both("save " + slot, () -> {
                real.save(slot);
                return "";
            }, () -> {
                model.save(slot);
                return "";
            });
        } else {
            both("restore " + slot, () -> real.restore(slot), () -> model.restore(slot));
        }
    }

    private void written() {
        both("writePictures", real::writePictures, model::writePictures);
        int length = model.writePictures();
        for (int k = 0; k < 3; k++) {
            int index = dice.about(length);
            both("writtenByte " + index, () -> real.writtenByte(index), () -> model.writtenByte(index));
        }
    }

    private void look() {
        int p = dice.about(model.count(2));
        int f = dice.about(model.count(1));
        int x = dice.anyInt() & (dice.oneOf(50) ? -1 : Integer.MAX_VALUE);
        switch (dice.next(19)) {
            case 0 -> {
                int what = dice.about(11);
                both("count " + what, () -> real.count(what), () -> model.count(what));
            }
            case 1 -> {
                int what = dice.about(7);
                both("family " + f + " " + what, () -> real.family(f, what), () -> model.family(f, what));
            }
            case 2 -> {
                int what = dice.about(6);
                both("picture " + p + " " + what, () -> real.picture(p, what), () -> model.picture(p, what));
            }
            case 3 -> both("copy " + p + " " + f, () -> real.copy(p, f), () -> model.copy(p, f));
            case 4 -> both("why " + p + " " + f, () -> real.why(p, f), () -> model.why(p, f));
            case 5 -> {
                int questions = dice.about(model.count(0) + 1);
                both("chance " + p + " " + f + " " + questions, () -> real.chance(p, f, questions),
                        () -> model.chance(p, f, questions));
            }
            case 6 -> both("bestTile " + p, () -> real.bestTile(p), () -> model.bestTile(p));
            case 7 -> both("roundsToFind " + x, () -> real.roundsToFind(x), () -> model.roundsToFind(x));
            case 8 -> both("leastTrusted", real::leastTrusted, model::leastTrusted);
            case 9 -> both("sources " + p + " " + f, () -> real.sources(p, f), () -> model.sources(p, f));
            case 10 -> both("wouldGet " + p + " " + f, () -> real.wouldGet(p, f), () -> model.wouldGet(p, f));
            case 11 -> both("waves", real::waves, model::waves);
            case 12 -> both("lost", real::lost, model::lost);
            case 13 -> both("depends " + p, () -> real.depends(p), () -> model.depends(p));
            case 14 -> both("mostNeeded", real::mostNeeded, model::mostNeeded);
            case 15 -> both("reach " + p, () -> real.reach(p), () -> model.reach(p));
            case 16 -> both("wouldSpread", real::wouldSpread, model::wouldSpread);
            case 17 -> both("bestPair", real::bestPair, model::bestPair);
            default -> both("soundness", real::soundness, model::soundness);
        }
    }
}
