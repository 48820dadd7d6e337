import java.util.ArrayList;
import java.util.List;

/** Texts of archives by dice, good ones and ones with a fault. */
final class ThrownTexts {
    private static final String[] NAMES = {"a", "b", "c", "d", "e", "aa", "ab", "family", "near", "by", "pledge",
        "spoiled", "picture", "tiles", "zzzzzzzz", "azzzzzzz", "zazzzzzz"};
    private static final String[] ODD_TOKENS = {"family", "near", "by", "pledge", "spoiled", "picture", "tiles", ";",
        "0", "1", "3", "4", "10", "11", "16", "17", "20", "21", "007", "99999999999", "a", "b", "q", "abcdefgh",
        "abcdefghi", "A", "-", "!", "\t", "\u00e9", "\u00ff", " "};

    private final Dice dice;

    ThrownTexts(Dice dice) {
        this.dice = dice;
    }

    String text() {
        List<String> tokens = tokens();
        if (dice.oneOf(3)) {
            for (int faults = 1 + dice.next(2); faults > 0; faults--) {
                spoil(tokens);
            }
        }
        StringBuilder text = new StringBuilder();
        String last = ";";
        for (String token : tokens) {
            // a word or a number would go on in one of its kind that follows at once
            boolean mayTouch = isWord(last) != isWord(token) || isNumber(last) != isNumber(token);
            if (mayTouch ? dice.oneOf(8) : !dice.oneOf(1000)) {
                text.append(dice.oneOf(20) ? "  " : " ");
            }
            text.append(token);
            last = token;
        }
        if (dice.oneOf(10)) {
            text.append("  ");
        }
        return text.length() <= 600 ? text.toString() : text.substring(0, 600 - dice.next(3));
    }

    private static boolean isWord(String token) {
        return token.matches("[a-z]+");
    }

    private static boolean isNumber(String token) {
        return token.matches("[0-9]+");
    }

    private void spoil(List<String> tokens) {
        int at = dice.next(tokens.size());
        String odd = ODD_TOKENS[dice.next(ODD_TOKENS.length)];
        switch (dice.next(6)) {
            case 0 -> tokens.remove(at);
            case 1 -> tokens.add(at, odd);
            case 2 -> tokens.add(at, tokens.get(dice.next(tokens.size())));
            case 3 -> tokens.set(at, tokens.get(dice.next(tokens.size())));
            case 4 -> tokens.subList(at, tokens.size()).clear();
            default -> tokens.set(at, odd);
        }
        if (tokens.isEmpty()) {
            tokens.add(odd);
        }
    }

    private List<String> tokens() {
        List<String> tokens = new ArrayList<>();
        int tiles = 4 + dice.next(13);
        int families = dice.oneOf(6) ? 10 : dice.oneOf(40) ? 11 : 2 + dice.next(7);
        int start = dice.next(3) * 3;
        add(tokens, "tiles", tiles, ";");
        int[] left = new int[families];
        for (int f = 0; f < families; f++) {
            left[f] = dice.oneOf(3) ? 1 + dice.next(3) : 1 + dice.next(20);
            add(tokens, "family", NAMES[start % 5 + f], left[f], ";");
        }
        int near = dice.next(4);
        for (int one = 0; one < families; one++) {
            for (int other = one + 1; other < families; other++) {
                if (dice.next(6) < near && tokens.size() < 90) {
                    add(tokens, "near", NAMES[start % 5 + (near == 1 ? one : other)],
                            NAMES[start % 5 + (near == 1 ? other : one)], ";");
                }
            }
        }
        int pictures = dice.oneOf(6) ? 12 : dice.oneOf(30) ? 13 : dice.next(7);
        for (int p = 0; p < pictures; p++) {
            picture(tokens, NAMES[p + start % 3], start % 5, left, tiles);
        }
        return tokens;
    }

    private void picture(List<String> tokens, String name, int start, int[] left, int tiles) {
        add(tokens, "picture", name, "pledge", 1 + dice.next(dice.oneOf(4) ? 10 : 4));
        int first = dice.next(left.length);
        for (int k = 0; k < left.length; k++) {
            int f = (first + k) % left.length;
            boolean fits = left[f] > 0 || dice.oneOf(60);
            if (!fits || !dice.oneOf(2) || tokens.size() > 130) {
                continue;
            }
            left[f]--;
            add(tokens, "by", NAMES[start + f]);
            if (dice.oneOf(2)) {
                add(tokens, "spoiled");
                int step = 1 + dice.next(3);
                int from = dice.next(tiles);
                for (int tile = from; tile < tiles && tile < from + 3 * step; tile += step) {
                    add(tokens, tile);
                }
            }
        }
        add(tokens, ";");
    }

    private static void add(List<String> tokens, Object... more) {
        for (Object token : more) {
            tokens.add(token.toString());
        }
    }
}
