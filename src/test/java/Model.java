import java.math.BigInteger;
import java.util.ArrayDeque;
import java.util.ArrayList;
import java.util.Deque;
import java.util.List;
import java.util.Set;
import java.util.TreeMap;
import java.util.TreeSet;

/**
 * The document once more, written with lists, maps and sets and with no thought of speed: what the
 * class is compared with. It shares no code with the class.
 */
final class Model {
    private static final class Copy {
        boolean held = true;
        Set<Integer> spoiled = new TreeSet<>();

        Copy again() {
            Copy copy = new Copy();
            copy.held = held;
            copy.spoiled = new TreeSet<>(spoiled);
            return copy;
        }
    }

    private static final class Family {
        String name;
        int room;
        int right;
        int wrong;
        Set<Integer> near = new TreeSet<>();

        Family again() {
            Family family = new Family();
            family.name = name;
            family.room = room;
            family.right = right;
            family.wrong = wrong;
            family.near = new TreeSet<>(near);
            return family;
        }

        int trust() {
            return (int) Math.floor(100.0 * (right + 1) / (right + wrong + 2));
        }
    }

    private static final class Picture {
        String name;
        int pledge;
        TreeMap<Integer, Copy> copies = new TreeMap<>();

        Picture again() {
            Picture picture = new Picture();
            picture.name = name;
            picture.pledge = pledge;
            copies.forEach((family, copy) -> picture.copies.put(family, copy.again()));
            return picture;
        }

        Set<Integer> holders() {
            Set<Integer> holders = new TreeSet<>();
            copies.forEach((family, copy) -> {
                if (copy.held) {
                    holders.add(family);
                }
            });
            return holders;
        }

        Set<Integer> soundHolders() {
            Set<Integer> holders = holders();
            holders.removeIf(family -> !copies.get(family).spoiled.isEmpty());
            return holders;
        }

        Set<Integer> brokenHolders() {
            Set<Integer> holders = new TreeSet<>(copies.keySet());
            holders.removeAll(holders());
            return holders;
        }

        boolean inDanger() {
            return holders().size() < pledge;
        }

        boolean trulyInDanger() {
            return soundHolders().size() < pledge;
        }
    }

    private static final class State {
        int tiles;
        int questions;
        int repairs;
        List<Family> families = new ArrayList<>();
        List<Picture> pictures = new ArrayList<>();

        State again() {
            State state = new State();
            state.tiles = tiles;
            state.questions = questions;
            state.repairs = repairs;
            families.forEach(family -> state.families.add(family.again()));
            pictures.forEach(picture -> state.pictures.add(picture.again()));
            return state;
        }

        Set<Integer> sources(int picture, int family) {
            Set<Integer> sources = new TreeSet<>(families.get(family).near);
            sources.retainAll(pictures.get(picture).holders());
            return sources;
        }

        Set<Integer> spoiledInAll(int picture, Set<Integer> sources) {
            Set<Integer> all = null;
            for (int source : sources) {
                Set<Integer> spoiled = pictures.get(picture).copies.get(source).spoiled;
                if (all == null) {
                    all = new TreeSet<>(spoiled);
                } else {
                    all.retainAll(spoiled);
                }
            }
            return all;
        }

        int roomLeft(int family) {
            int left = families.get(family).room;
            for (Picture picture : pictures) {
                if (picture.copies.containsKey(family)) {
                    left--;
                }
            }
            return left;
        }

        boolean ask(int picture, int family, int tile) {
            Copy copy = pictures.get(picture).copies.get(family);
            questions++;
            if (copy.spoiled.contains(tile)) {
                families.get(family).wrong++;
                copy.held = false;
                return false;
            }
            families.get(family).right++;
            return true;
        }

        /** Asks a round; the first answer is the next x, the second one how many answers were wrong. */
        int[] round(int x) {
            long number = x;
            int wrong = 0;
            for (int p = 0; p < pictures.size(); p++) {
                for (int f : pictures.get(p).holders()) {
                    number = (1103515245L * number + 12345L) % 2147483648L;
                    if (!ask(p, f, (int) (number / 65536L % tiles))) {
                        wrong++;
                    }
                }
            }
            return new int[] {(int) number, wrong};
        }

        int wave() {
            State before = again();
            int repaired = 0;
            for (int p = 0; p < pictures.size(); p++) {
                for (int f : before.pictures.get(p).brokenHolders()) {
                    Set<Integer> sources = before.sources(p, f);
                    if (!sources.isEmpty()) {
                        Copy copy = pictures.get(p).copies.get(f);
                        copy.held = true;
                        copy.spoiled = before.spoiledInAll(p, sources);
                        repaired++;
                    }
                }
            }
            repairs += repaired;
            return repaired;
        }

        int spread() {
            int made = 0;
            for (int p = 0; p < pictures.size(); p++) {
                Picture picture = pictures.get(p);
                while (picture.inDanger()) {
                    List<Integer> may = new ArrayList<>();
                    for (int f = 0; f < families.size(); f++) {
                        if (!picture.copies.containsKey(f) && roomLeft(f) > 0 && !sources(p, f).isEmpty()) {
                            may.add(f);
                        }
                    }
                    if (may.isEmpty()) {
                        break;
                    }
                    may.sort((one, other) -> roomLeft(one) != roomLeft(other) ? roomLeft(other) - roomLeft(one)
                            : families.get(one).trust() != families.get(other).trust()
                            ? families.get(other).trust() - families.get(one).trust() : one - other);
                    Copy copy = new Copy();
                    copy.spoiled = spoiledInAll(p, sources(p, may.get(0)));
                    picture.copies.put(may.get(0), copy);
                    made++;
                }
            }
            return made;
        }

        int count(int what) {
            int sum = 0;
            for (Picture picture : pictures) {
                switch (what) {
                    case 3 -> sum += picture.copies.size();
                    case 4 -> sum += picture.brokenHolders().size();
                    case 5 -> sum += picture.holders().size() - picture.soundHolders().size();
                    case 6 -> sum += picture.inDanger() ? 1 : 0;
                    case 7 -> sum += picture.trulyInDanger() ? 1 : 0;
                    default -> sum += 0;
                }
            }
            return sum;
        }

        int pairs() {
            return families.stream().mapToInt(family -> family.near.size()).sum() / 2;
        }
    }

    private State now = new State();
    private final Deque<State> before = new ArrayDeque<>();
    private final State[] saved = new State[2];
    private String buffer = "";
    private int errorAt = -1;
    private String written = "";

    Model() {
        now.tiles = 4;
        for (String name : List.of("a", "b")) {
            Family family = new Family();
            family.name = name;
            family.room = 1;
            now.families.add(family);
        }
    }

    private void change() {
        before.push(now.again());
        if (before.size() > 8) {
            before.removeLast();
        }
    }

    private void exists(int number, int many) {
        if (number < 0 || number >= many) {
            throw new IndexOutOfBoundsException();
        }
    }

    private void allowed(int number, int least, int most) {
        if (number < least || number > most) {
            throw new IllegalArgumentException();
        }
    }

    private void existBoth(int picture, int family) {
        exists(picture, now.pictures.size());
        exists(family, now.families.size());
    }

    private static int bits(Set<Integer> set) {
        return set.stream().mapToInt(place -> 1 << place).sum();
    }

    private Copy copyOf(int picture, int family) {
        return now.pictures.get(picture).copies.get(family);
    }

    int append(String bytes) {
        if (buffer.length() + bytes.length() > 600) {
            throw new IllegalStateException();
        }
        buffer += bytes;
        return buffer.length();
    }

    int load() {
        Reader reader = new Reader(buffer);
        buffer = "";
        try {
            reader.read();
        } catch (TextError error) {
            errorAt = error.at;
            return error.code;
        }
        errorAt = -1;
        change();
        now = reader.state;
        return now.pictures.size();
    }

    int errorPosition() {
        return errorAt;
    }

    int count(int what) {
        allowed(what, 0, 10);
        return switch (what) {
            case 0 -> now.tiles;
            case 1 -> now.families.size();
            case 2 -> now.pictures.size();
            case 8 -> now.questions;
            case 9 -> now.repairs;
            case 10 -> now.pairs();
            default -> now.count(what);
        };
    }

    int family(int number, int what) {
        exists(number, now.families.size());
        allowed(what, 0, 6);
        Family family = now.families.get(number);
        return switch (what) {
            case 0 -> family.room;
            case 1 -> family.room - now.roomLeft(number);
            case 2 -> (int) now.pictures.stream().filter(p -> p.brokenHolders().contains(number)).count();
            case 3 -> family.right;
            case 4 -> family.wrong;
            case 5 -> family.trust();
            default -> bits(family.near);
        };
    }

    int picture(int number, int what) {
        exists(number, now.pictures.size());
        allowed(what, 0, 5);
        Picture picture = now.pictures.get(number);
        return switch (what) {
            case 0 -> picture.pledge;
            case 1 -> bits(picture.holders());
            case 2 -> bits(picture.brokenHolders());
            case 3 -> bits(picture.soundHolders());
            case 4 -> picture.inDanger() ? 1 : 0;
            default -> picture.trulyInDanger() ? 1 : 0;
        };
    }

    int copy(int picture, int family) {
        existBoth(picture, family);
        Copy copy = copyOf(picture, family);
        return copy == null ? -1 : bits(copy.spoiled);
    }

    int why(int picture, int family) {
        existBoth(picture, family);
        Copy copy = copyOf(picture, family);
        return copy == null ? 1 : !copy.held ? 2 : copy.spoiled.isEmpty() ? 0 : 3;
    }

    double chance(int picture, int family, int questions) {
        existBoth(picture, family);
        Copy copy = copyOf(picture, family);
        if (copy == null || !copy.held) {
            throw new IllegalStateException();
        }
        allowed(questions, 0, now.tiles);
        double product = 1.0;
        for (int k = 0; k < questions; k++) {
            int sound = now.tiles - copy.spoiled.size() - k;
            if (sound == 0) {
                return 1.0 - 0.0;
            }
            product *= (double) sound / (double) (now.tiles - k);
        }
        return 1.0 - product;
    }

    int bestTile(int picture) {
        exists(picture, now.pictures.size());
        int[] spoiled = new int[now.tiles];
        for (int family : now.pictures.get(picture).holders()) {
            copyOf(picture, family).spoiled.forEach(tile -> spoiled[tile]++);
        }
        int best = 0;
        for (int tile = 0; tile < now.tiles; tile++) {
            best = spoiled[tile] > spoiled[best] ? tile : best;
        }
        return spoiled[best] == 0 ? -1 : best;
    }

    int roundsToFind(int x) {
        allowed(x, 0, Integer.MAX_VALUE);
        State trial = now.again();
        int number = x;
        int rounds = 0;
        while (trial.count(5) > 0) {
            if (rounds == 60) {
                return -1;
            }
            number = trial.round(number)[0];
            rounds++;
        }
        return rounds;
    }

    int leastTrusted() {
        int least = 0;
        for (int f = 0; f < now.families.size(); f++) {
            least = now.families.get(f).trust() < now.families.get(least).trust() ? f : least;
        }
        return least;
    }

    int sources(int picture, int family) {
        existBoth(picture, family);
        return bits(now.sources(picture, family));
    }

    int wouldGet(int picture, int family) {
        existBoth(picture, family);
        Set<Integer> sources = now.sources(picture, family);
        return sources.isEmpty() ? -1 : bits(now.spoiledInAll(picture, sources));
    }

    int waves() {
        State trial = now.again();
        int waves = 0;
        while (trial.wave() > 0) {
            waves++;
        }
        return waves;
    }

    int lost() {
        State trial = now.again();
        for (int waves = waves(); waves > 0; waves--) {
            trial.wave();
        }
        return trial.count(4);
    }

    private Set<Integer> needed(Picture picture) {
        Set<Integer> needed = new TreeSet<>();
        for (int family : picture.holders()) {
            Picture without = picture.again();
            without.copies.remove(family);
            if (!picture.inDanger() && without.inDanger()) {
                needed.add(family);
            }
        }
        return needed;
    }

    int depends(int picture) {
        exists(picture, now.pictures.size());
        return bits(needed(now.pictures.get(picture)));
    }

    int mostNeeded() {
        int[] needing = new int[now.families.size()];
        for (Picture picture : now.pictures) {
            needed(picture).forEach(family -> needing[family]++);
        }
        int best = 0;
        for (int f = 0; f < needing.length; f++) {
            best = needing[f] > needing[best] ? f : best;
        }
        return needing[best] == 0 ? -1 : best;
    }

    int reach(int picture) {
        exists(picture, now.pictures.size());
        Deque<Integer> open = new ArrayDeque<>(now.pictures.get(picture).holders());
        Set<Integer> reached = new TreeSet<>();
        while (!open.isEmpty()) {
            int family = open.pop();
            if (reached.add(family)) {
                open.addAll(now.families.get(family).near);
            }
        }
        return reached.size();
    }

    int wouldSpread() {
        return now.again().spread();
    }

    int bestPair() {
        State plain = now.again();
        plain.spread();
        int fewest = plain.count(6);
        int best = -1;
        for (int one = 0; one < now.families.size(); one++) {
            for (int other = one + 1; other < now.families.size(); other++) {
                if (now.families.get(one).near.contains(other)) {
                    continue;
                }
                State trial = now.again();
                trial.families.get(one).near.add(other);
                trial.families.get(other).near.add(one);
                trial.spread();
                if (trial.count(6) < fewest) {
                    fewest = trial.count(6);
                    best = 10 * one + other;
                }
            }
        }
        return best;
    }

    float soundness() {
        int held = count(3) - count(4);
        return held == 0 ? 0 : (float) (held - count(5)) / held;
    }

    int ask(int picture, int family, int tile) {
        existBoth(picture, family);
        exists(tile, now.tiles);
        Copy copy = copyOf(picture, family);
        if (copy == null || !copy.held) {
            return copy == null ? -11 : -12;
        }
        change();
        return now.ask(picture, family, tile) ? 1 : 0;
    }

    int round(int x) {
        allowed(x, 0, Integer.MAX_VALUE);
        change();
        return now.round(x)[1];
    }

    int harm(int family, int tiles) {
        exists(family, now.families.size());
        if (tiles == 0 || tiles >>> now.tiles != 0) {
            throw new IllegalArgumentException();
        }
        change();
        int unsound = now.count(5);
        for (Picture picture : now.pictures) {
            Copy copy = picture.copies.get(family);
            for (int tile = 0; tile < now.tiles && copy != null; tile++) {
                if ((tiles >> tile) % 2 != 0) {
                    copy.spoiled.add(tile);
                }
            }
        }
        return now.count(5) - unsound;
    }

    int repair(int picture, int family) {
        existBoth(picture, family);
        Copy copy = copyOf(picture, family);
        if (copy == null || copy.held) {
            return copy == null ? -11 : -13;
        }
        Set<Integer> sources = now.sources(picture, family);
        if (sources.isEmpty()) {
            return -14;
        }
        change();
        copy.spoiled = now.spoiledInAll(picture, sources);
        copy.held = true;
        now.repairs++;
        return sources.size();
    }

    int wave() {
        change();
        return now.wave();
    }

    int spread() {
        change();
        return now.spread();
    }

    int join(int room) {
        allowed(room, 1, 20);
        if (now.families.size() == 10) {
            return -15;
        }
        change();
        Family family = new Family();
        family.name = "-";
        family.room = room;
        now.families.add(family);
        return now.families.size() - 1;
    }

    int meet(int one, int other) {
        exists(one, now.families.size());
        exists(other, now.families.size());
        if (one == other) {
            throw new IllegalArgumentException();
        }
        if (now.families.get(one).near.contains(other)) {
            return -16;
        }
        change();
        now.families.get(one).near.add(other);
        now.families.get(other).near.add(one);
        return now.pairs();
    }

    int leave(int family) {
        exists(family, now.families.size());
        if (now.families.size() == 2) {
            return -17;
        }
        change();
        int gone = 0;
        now.families.remove(family);
        for (Family other : now.families) {
            Set<Integer> near = new TreeSet<>();
            other.near.forEach(f -> {
                if (f != family) {
                    near.add(f < family ? f : f - 1);
                }
            });
            other.near = near;
        }
        for (Picture picture : now.pictures) {
            gone += picture.copies.containsKey(family) ? 1 : 0;
            TreeMap<Integer, Copy> copies = new TreeMap<>();
            picture.copies.forEach((f, copy) -> {
                if (f != family) {
                    copies.put(f < family ? f : f - 1, copy);
                }
            });
            picture.copies = copies;
        }
        return gone;
    }

    int setPledge(int picture, int pledge) {
        exists(picture, now.pictures.size());
        allowed(pledge, 1, 10);
        change();
        int old = now.pictures.get(picture).pledge;
        now.pictures.get(picture).pledge = pledge;
        return old;
    }

    int undo() {
        if (before.isEmpty()) {
            throw new IllegalStateException();
        }
        now = before.pop();
        return before.size();
    }

    void save(int slot) {
        exists(slot, 2);
        saved[slot] = now.again();
    }

    int restore(int slot) {
        exists(slot, 2);
        if (saved[slot] == null) {
            throw new IllegalStateException();
        }
        change();
        now = saved[slot].again();
        return now.families.size();
    }

    int writePictures() {
        List<String> texts = new ArrayList<>();
        for (Picture picture : now.pictures) {
            List<String> holders = new ArrayList<>();
            picture.copies.forEach((f, copy) -> holders.add(now.families.get(f).name + (copy.held ? "" : "!")));
            texts.add(picture.name + ":" + String.join(",", holders) + (picture.inDanger() ? "*" : ""));
        }
        written = String.join(" ", texts);
        return written.length();
    }

    int writtenByte(int index) {
        exists(index, written.length());
        return written.charAt(index);
    }

    private static final class TextError extends Exception {
        private static final long serialVersionUID = 1L;
        final int code;
        final int at;

        TextError(int code, int at) {
            this.code = code;
            this.at = at;
        }
    }

    /** Reads the tokens of a text, of which it makes a list first. */
    private static final class Reader {
        final State state = new State();
        private final List<String> tokens = new ArrayList<>();
        private final List<Integer> places = new ArrayList<>();
        private int next = 0;

        Reader(String text) {
            int at = 0;
            while (at < text.length()) {
                int end = at + 1;
                String kind = kind(text.charAt(at));
                while (!kind.isEmpty() && end < text.length() && kind(text.charAt(end)).equals(kind)) {
                    end++;
                }
                if (!kind.equals(" ")) {
                    tokens.add(text.substring(at, end));
                    places.add(at);
                }
                at = end;
            }
            tokens.add("");
            places.add(text.length());
        }

        private static String kind(char sign) {
            return sign == ' ' ? " " : sign >= '0' && sign <= '9' ? "0" : sign >= 'a' && sign <= 'z' ? "a" : "";
        }

        void read() throws TextError {
            word("tiles");
            state.tiles = number(4, 16);
            word(";");
            while (state.families.size() < 2 || is("family")) {
                if (is("family") && state.families.size() == 10) {
                    throw new TextError(-7, places.get(next));
                }
                family();
            }
            while (is("near")) {
                near();
            }
            while (is("picture")) {
                if (state.pictures.size() == 12) {
                    throw new TextError(-7, places.get(next));
                }
                picture();
            }
            word("");
        }

        private void family() throws TextError {
            word("family");
            Family family = new Family();
            family.name = name();
            if (familyNamed(family.name) >= 0) {
                throw new TextError(-5, places.get(next - 1));
            }
            family.room = number(1, 20);
            state.families.add(family);
            word(";");
        }

        private void near() throws TextError {
            word("near");
            int one = knownFamily();
            int other = knownFamily();
            if (one == other || !state.families.get(one).near.add(other)) {
                throw new TextError(-5, places.get(next - 1));
            }
            state.families.get(other).near.add(one);
            word(";");
        }

        private void picture() throws TextError {
            word("picture");
            Picture picture = new Picture();
            picture.name = name();
            if (state.pictures.stream().anyMatch(other -> other.name.equals(picture.name))) {
                throw new TextError(-5, places.get(next - 1));
            }
            word("pledge");
            picture.pledge = number(1, 10);
            state.pictures.add(picture);
            while (!is(";")) {
                word("by");
                int family = knownFamily();
                if (picture.copies.containsKey(family)) {
                    throw new TextError(-5, places.get(next - 1));
                }
                if (state.roomLeft(family) == 0) {
                    throw new TextError(-6, places.get(next - 1));
                }
                picture.copies.put(family, copy());
            }
            word(";");
        }

        private Copy copy() throws TextError {
            Copy copy = new Copy();
            if (is("spoiled")) {
                word("spoiled");
                do {
                    if (!copy.spoiled.add(number(0, state.tiles - 1))) {
                        throw new TextError(-5, places.get(next - 1));
                    }
                } while (tokens.get(next).matches("[0-9]+"));
            }
            return copy;
        }

        private boolean is(String token) {
            return tokens.get(next).equals(token);
        }

        private void word(String token) throws TextError {
            if (!is(token)) {
                throw new TextError(-2, places.get(next));
            }
            next++;
        }

        private String name() throws TextError {
            if (!tokens.get(next).matches("[a-z]{1,8}")) {
                throw new TextError(-2, places.get(next));
            }
            return tokens.get(next++);
        }

        private int number(int least, int most) throws TextError {
            if (!tokens.get(next).matches("[0-9]+")) {
                throw new TextError(-2, places.get(next));
            }
            BigInteger number = new BigInteger(tokens.get(next));
            if (number.compareTo(BigInteger.valueOf(least)) < 0 || number.compareTo(BigInteger.valueOf(most)) > 0) {
                throw new TextError(-3, places.get(next));
            }
            next++;
            return number.intValue();
        }

        private int familyNamed(String name) {
            for (int f = 0; f < state.families.size(); f++) {
                if (state.families.get(f).name.equals(name)) {
                    return f;
                }
            }
            return -1;
        }

        private int knownFamily() throws TextError {
            int family = familyNamed(name());
            if (family < 0) {
                throw new TextError(-4, places.get(next - 1));
            }
            return family;
        }
    }
}
