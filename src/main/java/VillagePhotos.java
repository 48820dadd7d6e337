import java.util.Arrays;

/**
 * An archive of a village's photographs, of which families hold copies.
 *
 * <p>The face of the class looks at what it is given and keeps what can be undone. The rules stand
 * in Archive: one of these is what is, another one is where the answers to "what would be" are
 * tried out.
 */
public final class VillagePhotos {
    public static final int NONE = -1;
    public static final int SYNTAX_ERROR = -2;
    public static final int VALUE_ERROR = -3;
    public static final int UNKNOWN = -4;
    public static final int TWICE = -5;
    public static final int NO_ROOM = -6;
    public static final int TOO_MANY = -7;

    private static final int MAX_TEXT = 600;
    private static final int MIN_FAMILIES = 2;
    private static final int MAX_FAMILIES = 10;
    private static final int MAX_PICTURES = 12;
    private static final int MAX_CELLS = MAX_PICTURES * MAX_FAMILIES;
    private static final int MIN_TILES = 4;
    private static final int MAX_TILES = 16;
    private static final int MAX_ROOM = 20;
    private static final int MAX_PLEDGE = 10;
    private static final int MAX_UNDO = 8;
    private static final int MAX_ROUNDS = 60;
    private static final int SLOTS = 2;
    private static final int BYTES_IN_ARGUMENT = 4;

    private static final int REFUSED_NO_COPY = -11;
    private static final int REFUSED_BROKEN = -12;
    private static final int REFUSED_HELD = -13;
    private static final int REFUSED_NO_SOURCE = -14;
    private static final int REFUSED_FULL = -15;
    private static final int REFUSED_NEIGHBOURS = -16;
    private static final int REFUSED_TOO_FEW = -17;

    private final Archive present;
    private final Archive trial;
    private final History history;
    private final Archive[] saved;
    private final TextReader reader;
    private final PictureWriter writer;

    public VillagePhotos() {
        present = new Archive();
        trial = new Archive();
        history = new History();
        saved = new Archive[SLOTS];
        reader = new TextReader();
        writer = new PictureWriter();
        present.startEmpty(MIN_TILES);
        present.addFamily(Names.withSign(0L, 'a'), 1);
        present.addFamily(Names.withSign(0L, 'b'), 1);
    }

    // ---- setup

    public int append(int a, int b, int c, int d, int e) throws IllegalStateException {
        int more = bytesIn(a) + bytesIn(b) + bytesIn(c) + bytesIn(d) + bytesIn(e);
        if (reader.length + more > MAX_TEXT) {
            throw new IllegalStateException("the text would be too long");
        }
        reader.putBytes(a);
        reader.putBytes(b);
        reader.putBytes(c);
        reader.putBytes(d);
        reader.putBytes(e);
        return reader.length;
    }

    public int load() {
        if (!reader.readText(trial)) {
            return reader.errorCode;
        }
        history.keep(present);
        present.takeFrom(trial);
        return present.pictures;
    }

    public int errorPosition() {
        return reader.errorAt;
    }

    public int count(int what) throws IllegalArgumentException {
        switch (what) {
            case 0:
                return present.tiles;
            case 1:
                return present.families;
            case 2:
                return present.pictures;
            case 3:
                return present.allCopies();
            case 4:
                return present.brokenCopies();
            case 5:
                return present.unsoundCopies();
            case 6:
                return present.picturesInDanger();
            case 7:
                return present.picturesTrulyInDanger();
            case 8:
                return present.questions;
            case 9:
                return present.repairs;
            case 10:
                return present.neighbourPairs();
            default:
                throw new IllegalArgumentException("no such number of an archive");
        }
    }

    public int family(int family, int what) throws IndexOutOfBoundsException, IllegalArgumentException {
        needFamily(family);
        switch (what) {
            case 0:
                return present.rooms[family];
            case 1:
                return present.copies[family];
            case 2:
                return present.brokenCopiesOf(family);
            case 3:
                return present.right[family];
            case 4:
                return present.wrong[family];
            case 5:
                return present.trustOf(family);
            case 6:
                return present.near[family];
            default:
                throw new IllegalArgumentException("no such number of a family");
        }
    }

    public int picture(int picture, int what) throws IndexOutOfBoundsException, IllegalArgumentException {
        needPicture(picture);
        switch (what) {
            case 0:
                return present.pledges[picture];
            case 1:
                return present.held[picture];
            case 2:
                return present.broken[picture];
            case 3:
                return present.soundHolders(picture);
            case 4:
                return present.isInDanger(picture) ? 1 : 0;
            case 5:
                return present.isTrulyInDanger(picture) ? 1 : 0;
            default:
                throw new IllegalArgumentException("no such number of a picture");
        }
    }

    public int copy(int picture, int family) throws IndexOutOfBoundsException {
        needBoth(picture, family);
        return present.hasCopy(picture, family) ? present.spoiledTiles(picture, family) : NONE;
    }

    public int why(int picture, int family) throws IndexOutOfBoundsException {
        needBoth(picture, family);
        if (!present.hasCopy(picture, family)) {
            return 1;
        }
        if (!present.isHeld(picture, family)) {
            return 2;
        }
        return present.spoiledTiles(picture, family) == 0 ? 0 : 3;
    }

    // ---- questions

    public double chance(int picture, int family, int questions)
            throws IndexOutOfBoundsException, IllegalStateException, IllegalArgumentException {
        needBoth(picture, family);
        if (!present.isHeld(picture, family)) {
            throw new IllegalStateException("there is no held copy");
        }
        if (questions < 0 || questions > present.tiles) {
            throw new IllegalArgumentException("there are not so many tiles");
        }
        return 1.0 - present.chanceOfRightAnswers(picture, family, questions);
    }

    public int bestTile(int picture) throws IndexOutOfBoundsException {
        needPicture(picture);
        return present.mostSpoiledTile(picture);
    }

    public int roundsToFind(int x) throws IllegalArgumentException {
        needRoundNumber(x);
        trial.takeFrom(present);
        int number = x;
        for (int rounds = 0; rounds < MAX_ROUNDS; rounds++) {
            if (trial.unsoundCopies() == 0) {
                return rounds;
            }
            number = trial.askRound(number);
        }
        return trial.unsoundCopies() == 0 ? MAX_ROUNDS : NONE;
    }

    public int leastTrusted() {
        int least = 0;
        for (int f = 1; f < present.families; f++) {
            if (present.trustOf(f) < present.trustOf(least)) {
                least = f;
            }
        }
        return least;
    }

    // ---- repairs

    public int sources(int picture, int family) throws IndexOutOfBoundsException {
        needBoth(picture, family);
        return present.sourcesOf(picture, family);
    }

    public int wouldGet(int picture, int family) throws IndexOutOfBoundsException {
        needBoth(picture, family);
        int from = present.sourcesOf(picture, family);
        return from == 0 ? NONE : present.spoiledInAll(picture, from);
    }

    public int waves() {
        trial.takeFrom(present);
        return trial.repairInWaves();
    }

    public int lost() {
        trial.takeFrom(present);
        trial.repairInWaves();
        return trial.brokenCopies();
    }

    public int depends(int picture) throws IndexOutOfBoundsException {
        needPicture(picture);
        return present.neededHolders(picture);
    }

    public int mostNeeded() {
        int best = NONE;
        int most = 0;
        for (int f = 0; f < present.families; f++) {
            int needing = present.picturesThatNeed(f);
            if (needing > most) {
                most = needing;
                best = f;
            }
        }
        return best;
    }

    public int reach(int picture) throws IndexOutOfBoundsException {
        needPicture(picture);
        return Integer.bitCount(present.reachedFrom(present.held[picture]));
    }

    public int wouldSpread() {
        trial.takeFrom(present);
        return trial.makeCopies();
    }

    public int bestPair() {
        trial.takeFrom(present);
        int fewest = trial.dangerBehindCopies();
        int best = NONE;
        for (int one = 0; one < present.families; one++) {
            for (int other = one + 1; other < present.families; other++) {
                if (present.areNeighbours(one, other)) {
                    continue;
                }
                trial.takeFrom(present);
                trial.makeNeighbours(one, other);
                int danger = trial.dangerBehindCopies();
                if (danger < fewest) {
                    fewest = danger;
                    best = 10 * one + other;
                }
            }
        }
        return best;
    }

    public float soundness() {
        int heldOnes = present.heldCopies();
        if (heldOnes == 0) {
            return 0.0f;
        }
        return (float) (heldOnes - present.unsoundCopies()) / (float) heldOnes;
    }

    // ---- changes

    public int ask(int picture, int family, int tile) throws IndexOutOfBoundsException {
        needBoth(picture, family);
        if (tile < 0 || tile >= present.tiles) {
            throw new IndexOutOfBoundsException("there is no such tile");
        }
        if (!present.hasCopy(picture, family)) {
            return REFUSED_NO_COPY;
        }
        if (!present.isHeld(picture, family)) {
            return REFUSED_BROKEN;
        }
        history.keep(present);
        return present.answersRight(picture, family, tile) ? 1 : 0;
    }

    public int round(int x) throws IllegalArgumentException {
        needRoundNumber(x);
        history.keep(present);
        int brokenBefore = present.brokenCopies();
        present.askRound(x);
        // each wrong answer breaks one copy, and nothing else in a round does
        return present.brokenCopies() - brokenBefore;
    }

    public int harm(int family, int tiles) throws IndexOutOfBoundsException, IllegalArgumentException {
        needFamily(family);
        if (tiles == 0 || (tiles & ~present.allTiles()) != 0) {
            throw new IllegalArgumentException("no tile, or one that does not exist");
        }
        history.keep(present);
        int unsoundBefore = present.unsoundCopies();
        present.spoilCopiesOf(family, tiles);
        return present.unsoundCopies() - unsoundBefore;
    }

    public int repair(int picture, int family) throws IndexOutOfBoundsException {
        needBoth(picture, family);
        if (!present.hasCopy(picture, family)) {
            return REFUSED_NO_COPY;
        }
        if (present.isHeld(picture, family)) {
            return REFUSED_HELD;
        }
        int from = present.sourcesOf(picture, family);
        if (from == 0) {
            return REFUSED_NO_SOURCE;
        }
        history.keep(present);
        present.mendCopy(picture, family, from);
        return Integer.bitCount(from);
    }

    public int wave() {
        history.keep(present);
        return present.repairAtOnce();
    }

    public int spread() {
        history.keep(present);
        return present.makeCopies();
    }

    public int join(int room) throws IllegalArgumentException {
        if (room < 1 || room > MAX_ROOM) {
            throw new IllegalArgumentException("no such room");
        }
        if (present.families >= MAX_FAMILIES) {
            return REFUSED_FULL;
        }
        history.keep(present);
        present.addFamily(Names.withSign(0L, '-'), room);
        return present.families - 1;
    }

    public int meet(int one, int other) throws IndexOutOfBoundsException, IllegalArgumentException {
        needFamily(one);
        needFamily(other);
        if (one == other) {
            throw new IllegalArgumentException("a family is no neighbour of itself");
        }
        if (present.areNeighbours(one, other)) {
            return REFUSED_NEIGHBOURS;
        }
        history.keep(present);
        present.makeNeighbours(one, other);
        return present.neighbourPairs();
    }

    public int leave(int family) throws IndexOutOfBoundsException {
        needFamily(family);
        if (present.families <= MIN_FAMILIES) {
            return REFUSED_TOO_FEW;
        }
        history.keep(present);
        int gone = present.copies[family];
        present.removeFamily(family);
        return gone;
    }

    public int setPledge(int picture, int pledge) throws IndexOutOfBoundsException, IllegalArgumentException {
        needPicture(picture);
        if (pledge < 1 || pledge > MAX_PLEDGE) {
            throw new IllegalArgumentException("no such pledge");
        }
        history.keep(present);
        int before = present.pledges[picture];
        present.pledges[picture] = pledge;
        return before;
    }

    public int undo() throws IllegalStateException {
        if (!history.giveBack(present)) {
            throw new IllegalStateException("there is no change to undo");
        }
        return history.size;
    }

    public void save(int slot) throws IndexOutOfBoundsException {
        needSlot(slot);
        Archive to = saved[slot];
        if (to == null) {
            to = new Archive();
            saved[slot] = to;
        }
        to.takeFrom(present);
    }

    public int restore(int slot) throws IndexOutOfBoundsException, IllegalStateException {
        needSlot(slot);
        Archive from = saved[slot];
        if (from == null) {
            throw new IllegalStateException("nothing is saved there");
        }
        history.keep(present);
        present.takeFrom(from);
        return present.families;
    }

    // ---- texts

    public int writePictures() {
        return writer.writeAll(present);
    }

    public int writtenByte(int index) throws IndexOutOfBoundsException {
        if (index < 0 || index >= writer.length) {
            throw new IndexOutOfBoundsException("there is no such byte");
        }
        return writer.bytes[index];
    }

    private static int bytesIn(int argument) {
        int bytes = 0;
        for (int k = 0; k < BYTES_IN_ARGUMENT; k++) {
            if ((argument >>> (8 * k) & 255) != 0) {
                bytes++;
            }
        }
        return bytes;
    }

    private void needFamily(int family) {
        if (family < 0 || family >= present.families) {
            throw new IndexOutOfBoundsException("there is no such family");
        }
    }

    private void needPicture(int picture) {
        if (picture < 0 || picture >= present.pictures) {
            throw new IndexOutOfBoundsException("there is no such picture");
        }
    }

    private void needBoth(int picture, int family) {
        needPicture(picture);
        needFamily(family);
    }

    private static void needSlot(int slot) {
        if (slot < 0 || slot >= SLOTS) {
            throw new IndexOutOfBoundsException("there is no such slot");
        }
    }

    private static void needRoundNumber(int x) {
        if (x < 0) {
            throw new IllegalArgumentException("x is out of range");
        }
    }

    /**
     * Names as numbers, so that an archive is copied without making objects: five bits a sign, the
     * last sign lowest; 1 to 26 are the letters, 27 is the hyphen of a family that joined.
     */
    private static final class Names {
        static final int MAX_LENGTH = 8;
        private static final int BITS = 5;
        private static final int HYPHEN = 27;

        private Names() {
        }

        static long withSign(long name, int sign) {
            int number = sign == '-' ? HYPHEN : sign - 'a' + 1;
            return name << BITS | number;
        }

        /** The sign at a place counted from the last one, or 0 if the name is shorter. */
        static int signFromEnd(long name, int place) {
            int number = (int) (name >>> (BITS * place)) & 31;
            if (number == 0) {
                return 0;
            }
            return number == HYPHEN ? '-' : number + 'a' - 1;
        }
    }

    /**
     * Everything that undo brings back, and the rules by which it changes. Callers give only
     * families and pictures that exist. Rows behind the last family and picture hold zeros.
     */
    private static final class Archive {
        int tiles;
        int families;
        int pictures;
        int questions;
        int repairs;
        final long[] familyNames = new long[MAX_FAMILIES];
        final int[] rooms = new int[MAX_FAMILIES];
        final int[] near = new int[MAX_FAMILIES];
        final int[] right = new int[MAX_FAMILIES];
        final int[] wrong = new int[MAX_FAMILIES];
        final int[] copies = new int[MAX_FAMILIES];
        final long[] pictureNames = new long[MAX_PICTURES];
        final int[] pledges = new int[MAX_PICTURES];
        final int[] held = new int[MAX_PICTURES];
        final int[] broken = new int[MAX_PICTURES];
        final int[] spoiled = new int[MAX_CELLS];

        void startEmpty(int newTiles) {
            tiles = newTiles;
            families = 0;
            pictures = 0;
            questions = 0;
            repairs = 0;
            Arrays.fill(familyNames, 0L);
            Arrays.fill(rooms, 0);
            Arrays.fill(near, 0);
            Arrays.fill(right, 0);
            Arrays.fill(wrong, 0);
            Arrays.fill(copies, 0);
            Arrays.fill(pictureNames, 0L);
            Arrays.fill(pledges, 0);
            Arrays.fill(held, 0);
            Arrays.fill(broken, 0);
            Arrays.fill(spoiled, 0);
        }

        void takeFrom(Archive other) {
            tiles = other.tiles;
            families = other.families;
            pictures = other.pictures;
            questions = other.questions;
            repairs = other.repairs;
            System.arraycopy(other.familyNames, 0, familyNames, 0, MAX_FAMILIES);
            System.arraycopy(other.rooms, 0, rooms, 0, MAX_FAMILIES);
            System.arraycopy(other.near, 0, near, 0, MAX_FAMILIES);
            System.arraycopy(other.right, 0, right, 0, MAX_FAMILIES);
            System.arraycopy(other.wrong, 0, wrong, 0, MAX_FAMILIES);
            System.arraycopy(other.copies, 0, copies, 0, MAX_FAMILIES);
            System.arraycopy(other.pictureNames, 0, pictureNames, 0, MAX_PICTURES);
            System.arraycopy(other.pledges, 0, pledges, 0, MAX_PICTURES);
            System.arraycopy(other.held, 0, held, 0, MAX_PICTURES);
            System.arraycopy(other.broken, 0, broken, 0, MAX_PICTURES);
            System.arraycopy(other.spoiled, 0, spoiled, 0, MAX_CELLS);
        }

        // families, pictures and copies

        void addFamily(long name, int room) {
            if (families >= MAX_FAMILIES) {
                return;
            }
            familyNames[families] = name;
            rooms[families] = room;
            families++;
        }

        void addPicture(long name, int pledge) {
            if (pictures >= MAX_PICTURES) {
                return;
            }
            pictureNames[pictures] = name;
            pledges[pictures] = pledge;
            pictures++;
        }

        void addCopy(int picture, int family, int spoiledTiles) {
            held[picture] |= 1 << family;
            spoiled[cell(picture, family)] = spoiledTiles;
            copies[family]++;
        }

        void removeFamily(int family) {
            int behind = families - family - 1;
            int last = families - 1;
            if (behind < 0 || last < 0) {
                return;
            }
            for (int p = 0; p < pictures; p++) {
                held[p] = withoutBit(held[p], family);
                broken[p] = withoutBit(broken[p], family);
                System.arraycopy(spoiled, cell(p, family + 1), spoiled, cell(p, family), behind);
                spoiled[cell(p, last)] = 0;
            }
            System.arraycopy(familyNames, family + 1, familyNames, family, behind);
            familyNames[last] = 0L;
            dropRow(rooms, family, behind);
            dropRow(right, family, behind);
            dropRow(wrong, family, behind);
            dropRow(copies, family, behind);
            dropRow(near, family, behind);
            families = last;
            for (int f = 0; f < families; f++) {
                near[f] = withoutBit(near[f], family);
            }
        }

        private static void dropRow(int[] rows, int row, int behind) {
            System.arraycopy(rows, row + 1, rows, row, behind);
            rows[row + behind] = 0;
        }

        private static int withoutBit(int bits, int place) {
            int below = bits & ((1 << place) - 1);
            int above = bits >>> (place + 1) << place;
            return below | above;
        }

        private static int cell(int picture, int family) {
            return picture * MAX_FAMILIES + family;
        }

        int allTiles() {
            return (1 << tiles) - 1;
        }

        int spoiledTiles(int picture, int family) {
            return spoiled[cell(picture, family)];
        }

        boolean isHeld(int picture, int family) {
            return (held[picture] >>> family & 1) != 0;
        }

        boolean hasCopy(int picture, int family) {
            return ((held[picture] | broken[picture]) >>> family & 1) != 0;
        }

        boolean areNeighbours(int one, int other) {
            return (near[one] >>> other & 1) != 0;
        }

        void makeNeighbours(int one, int other) {
            near[one] |= 1 << other;
            near[other] |= 1 << one;
        }

        int neighbourPairs() {
            int ends = 0;
            for (int f = 0; f < families; f++) {
                ends += Integer.bitCount(near[f]);
            }
            return ends / 2;
        }

        int allCopies() {
            return heldCopies() + brokenCopies();
        }

        int heldCopies() {
            int sum = 0;
            for (int p = 0; p < pictures; p++) {
                sum += Integer.bitCount(held[p]);
            }
            return sum;
        }

        int brokenCopies() {
            int sum = 0;
            for (int p = 0; p < pictures; p++) {
                sum += Integer.bitCount(broken[p]);
            }
            return sum;
        }

        int unsoundCopies() {
            int sum = 0;
            for (int p = 0; p < pictures; p++) {
                sum += Integer.bitCount(held[p] & ~soundHolders(p));
            }
            return sum;
        }

        int brokenCopiesOf(int family) {
            int sum = 0;
            for (int p = 0; p < pictures; p++) {
                sum += broken[p] >>> family & 1;
            }
            return sum;
        }

        int soundHolders(int picture) {
            int sound = 0;
            for (int f = 0; f < families; f++) {
                if (isHeld(picture, f) && spoiledTiles(picture, f) == 0) {
                    sound |= 1 << f;
                }
            }
            return sound;
        }

        boolean isInDanger(int picture) {
            return Integer.bitCount(held[picture]) < pledges[picture];
        }

        boolean isTrulyInDanger(int picture) {
            return Integer.bitCount(soundHolders(picture)) < pledges[picture];
        }

        int picturesInDanger() {
            int sum = 0;
            for (int p = 0; p < pictures; p++) {
                if (isInDanger(p)) {
                    sum++;
                }
            }
            return sum;
        }

        int picturesTrulyInDanger() {
            int sum = 0;
            for (int p = 0; p < pictures; p++) {
                if (isTrulyInDanger(p)) {
                    sum++;
                }
            }
            return sum;
        }

        void spoilCopiesOf(int family, int moreTiles) {
            for (int p = 0; p < pictures; p++) {
                if (hasCopy(p, family)) {
                    spoiled[cell(p, family)] |= moreTiles;
                }
            }
        }

        // questions

        int trustOf(int family) {
            int divisor = right[family] + wrong[family] + 2;
            return divisor > 0 ? 100 * (right[family] + 1) / divisor : 0;
        }

        /** Asks about a held copy and tells whether the answer is right; a wrong one breaks it. */
        boolean answersRight(int picture, int family, int tile) {
            questions++;
            if ((spoiledTiles(picture, family) >>> tile & 1) == 0) {
                right[family]++;
                return true;
            }
            wrong[family]++;
            held[picture] &= ~(1 << family);
            broken[picture] |= 1 << family;
            return false;
        }

        /** Asks a round and returns the x with which the next round would go on. */
        int askRound(int x) {
            int number = x;
            for (int p = 0; p < pictures; p++) {
                for (int f = 0; f < families; f++) {
                    if (isHeld(p, f)) {
                        number = (1103515245 * number + 12345) & 2147483647;
                        answersRight(p, f, tileFor(number));
                    }
                }
            }
            return number;
        }

        private int tileFor(int number) {
            return tiles > 0 ? number / 65536 % tiles : 0;
        }

        double chanceOfRightAnswers(int picture, int family, int asked) {
            int sound = tiles - Integer.bitCount(spoiledTiles(picture, family));
            double product = 1.0;
            for (int k = 0; k < asked; k++) {
                if (sound - k <= 0 || tiles - k <= 0) {
                    return 0.0;
                }
                product = product * ((double) (sound - k) / (double) (tiles - k));
            }
            return product;
        }

        int mostSpoiledTile(int picture) {
            int best = NONE;
            int most = 0;
            for (int t = 0; t < tiles; t++) {
                int spoiledOnes = heldCopiesSpoiledAt(picture, t);
                if (spoiledOnes > most) {
                    most = spoiledOnes;
                    best = t;
                }
            }
            return best;
        }

        private int heldCopiesSpoiledAt(int picture, int tile) {
            int sum = 0;
            for (int f = 0; f < families; f++) {
                if (isHeld(picture, f)) {
                    sum += spoiledTiles(picture, f) >>> tile & 1;
                }
            }
            return sum;
        }

        // repairs

        int sourcesOf(int picture, int family) {
            return near[family] & held[picture];
        }

        int spoiledInAll(int picture, int from) {
            int inAll = allTiles();
            for (int f = 0; f < families; f++) {
                if ((from >>> f & 1) != 0) {
                    inAll &= spoiledTiles(picture, f);
                }
            }
            return inAll;
        }

        void mendCopy(int picture, int family, int from) {
            spoiled[cell(picture, family)] = spoiledInAll(picture, from);
            held[picture] |= 1 << family;
            broken[picture] &= ~(1 << family);
            repairs++;
        }

        /** Makes one wave and returns how many copies it repaired. */
        int repairAtOnce() {
            int mended = 0;
            for (int p = 0; p < pictures; p++) {
                // copies that are mended in this wave are no sources in it
                int heldBefore = held[p];
                for (int f = 0; f < families; f++) {
                    int from = near[f] & heldBefore;
                    if ((broken[p] >>> f & 1) != 0 && from != 0) {
                        mendCopy(p, f, from);
                        mended++;
                    }
                }
            }
            return mended;
        }

        /** Makes waves as long as they repair something and returns how many these were. */
        int repairInWaves() {
            // each wave that counts mends at least one of the copies
            for (int made = 0; made < MAX_CELLS; made++) {
                if (repairAtOnce() == 0) {
                    return made;
                }
            }
            return MAX_CELLS;
        }

        int neededHolders(int picture) {
            return Integer.bitCount(held[picture]) == pledges[picture] ? held[picture] : 0;
        }

        int picturesThatNeed(int family) {
            int sum = 0;
            for (int p = 0; p < pictures; p++) {
                sum += neededHolders(p) >>> family & 1;
            }
            return sum;
        }

        int reachedFrom(int start) {
            int reached = start;
            // the longest way between two families has fewer steps than there are families
            for (int steps = 0; steps < MAX_FAMILIES; steps++) {
                for (int f = 0; f < families; f++) {
                    if ((reached >>> f & 1) != 0) {
                        reached |= near[f];
                    }
                }
            }
            return reached;
        }

        // spreading

        /** Spreads the pictures and returns how many copies were made. */
        int makeCopies() {
            int made = 0;
            for (int p = 0; p < pictures; p++) {
                for (int n = 0; n < MAX_FAMILIES && isInDanger(p); n++) {
                    int family = bestNewHolder(p);
                    if (family == NONE) {
                        break;
                    }
                    addCopy(p, family, spoiledInAll(p, sourcesOf(p, family)));
                    made++;
                }
            }
            return made;
        }

        int dangerBehindCopies() {
            makeCopies();
            return picturesInDanger();
        }

        private int bestNewHolder(int picture) {
            int best = NONE;
            for (int f = 0; f < families; f++) {
                boolean may = !hasCopy(picture, f) && roomLeft(f) > 0 && sourcesOf(picture, f) != 0;
                if (may && (best == NONE || isBetterHolder(f, best))) {
                    best = f;
                }
            }
            return best;
        }

        private boolean isBetterHolder(int family, int than) {
            if (roomLeft(family) != roomLeft(than)) {
                return roomLeft(family) > roomLeft(than);
            }
            return trustOf(family) > trustOf(than);
        }

        int roomLeft(int family) {
            return rooms[family] - copies[family];
        }
    }

    /** The archives before the latest changes, as a ring. */
    private static final class History {
        private final Archive[] kept = new Archive[MAX_UNDO];
        private int next = 0;
        int size = 0;

        void keep(Archive archive) {
            Archive to = kept[next];
            if (to == null) {
                to = new Archive();
                kept[next] = to;
            }
            to.takeFrom(archive);
            next = (next + 1) % MAX_UNDO;
            size = Math.min(size + 1, MAX_UNDO);
        }

        boolean giveBack(Archive archive) {
            int latest = (next + MAX_UNDO - 1) % MAX_UNDO;
            Archive before = kept[latest];
            if (size == 0 || before == null) {
                return false;
            }
            archive.takeFrom(before);
            next = latest;
            size--;
            return true;
        }
    }

    /**
     * The text buffer and its reader. What reads answers whether there was no error so far; a
     * reader stops at the first error, of which it keeps the code and the position.
     */
    private static final class TextReader {
        private static final int TOO_LARGE = 1000;

        private final byte[] text = new byte[MAX_TEXT];
        int length = 0;
        int errorCode = NONE;
        int errorAt = NONE;
        private int position = 0;
        private int tokenAt = 0;
        private int number = 0;
        private long name = 0L;

        /** Appends the bytes of an argument that are not 0. */
        void putBytes(int argument) {
            for (int k = BYTES_IN_ARGUMENT - 1; k >= 0; k--) {
                byte next = (byte) (argument >>> (8 * k));
                if (next != 0 && length < MAX_TEXT) {
                    text[length] = next;
                    length++;
                }
            }
        }

        /** Reads the buffer into an archive and empties the buffer. */
        boolean readText(Archive into) {
            position = 0;
            errorCode = NONE;
            errorAt = NONE;
            boolean good = readHead(into) && readNeighbours(into);
            // no text has more of them than bytes
            for (int n = 0; n < MAX_TEXT && good && takeWord("picture"); n++) {
                good = readPicture(into);
            }
            good = good && needEnd();
            length = 0;
            return good;
        }

        private boolean readHead(Archive into) {
            if (!needWord("tiles") || !needNumber(MIN_TILES, MAX_TILES) || !needSemicolon()) {
                return false;
            }
            into.startEmpty(number);
            for (int n = 0; n <= MAX_FAMILIES; n++) {
                boolean another = takeWord("family");
                if (!another && n < MIN_FAMILIES) {
                    return fail(SYNTAX_ERROR, position);
                }
                if (!another) {
                    return true;
                }
                if (!readFamily(into)) {
                    return false;
                }
            }
            return true;
        }

        private boolean readFamily(Archive into) {
            if (into.families >= MAX_FAMILIES) {
                return fail(TOO_MANY, tokenAt);
            }
            if (!needName()) {
                return false;
            }
            if (placeOf(into.familyNames, into.families) != NONE) {
                return fail(TWICE, tokenAt);
            }
            long familyName = name;
            if (!needNumber(1, MAX_ROOM)) {
                return false;
            }
            into.addFamily(familyName, number);
            return needSemicolon();
        }

        private boolean readNeighbours(Archive into) {
            for (int n = 0; n < MAX_TEXT && takeWord("near"); n++) {
                int one = needFamilyName(into);
                int other = one == NONE ? NONE : needFamilyName(into);
                if (other == NONE) {
                    return false;
                }
                if (one == other || into.areNeighbours(one, other)) {
                    return fail(TWICE, tokenAt);
                }
                into.makeNeighbours(one, other);
                if (!needSemicolon()) {
                    return false;
                }
            }
            return true;
        }

        private boolean readPicture(Archive into) {
            int picture = into.pictures;
            if (picture >= MAX_PICTURES) {
                return fail(TOO_MANY, tokenAt);
            }
            if (!needName()) {
                return false;
            }
            if (placeOf(into.pictureNames, picture) != NONE) {
                return fail(TWICE, tokenAt);
            }
            long pictureName = name;
            if (!needWord("pledge") || !needNumber(1, MAX_PLEDGE)) {
                return false;
            }
            into.addPicture(pictureName, number);
            for (int n = 0; n < MAX_TEXT && takeWord("by"); n++) {
                if (!readCopy(into, picture)) {
                    return false;
                }
            }
            return needSemicolon();
        }

        private boolean readCopy(Archive into, int picture) {
            int family = needFamilyName(into);
            if (family == NONE) {
                return false;
            }
            if (into.hasCopy(picture, family)) {
                return fail(TWICE, tokenAt);
            }
            if (into.roomLeft(family) <= 0) {
                return fail(NO_ROOM, tokenAt);
            }
            int spoiledTiles = takeWord("spoiled") ? needTiles(into.tiles) : 0;
            if (spoiledTiles == NONE) {
                return false;
            }
            into.addCopy(picture, family, spoiledTiles);
            return true;
        }

        /** Reads the tiles behind "spoiled" as a set of bits; NONE if there is an error. */
        private int needTiles(int tiles) {
            int set = 0;
            for (int n = 0; n <= tiles && (n == 0 || isDigitNext()); n++) {
                if (!needNumber(0, tiles - 1)) {
                    return NONE;
                }
                if ((set >>> number & 1) != 0) {
                    fail(TWICE, tokenAt);
                    return NONE;
                }
                set |= 1 << number;
            }
            return set;
        }

        /** Reads the name of a family and returns its number; NONE if there is an error. */
        private int needFamilyName(Archive into) {
            if (!needName()) {
                return NONE;
            }
            int family = placeOf(into.familyNames, into.families);
            if (family == NONE) {
                fail(UNKNOWN, tokenAt);
            }
            return family;
        }

        private int placeOf(long[] names, int known) {
            for (int k = 0; k < known && k < names.length; k++) {
                if (names[k] == name) {
                    return k;
                }
            }
            return NONE;
        }

        private boolean fail(int code, int at) {
            errorCode = code;
            errorAt = at;
            return false;
        }

        // tokens

        private void skipSpaces() {
            for (int k = position; k < length && text[k] == ' '; k++) {
                position = k + 1;
            }
        }

        private int wordEnd() {
            for (int k = position; k < length; k++) {
                if (text[k] < 'a' || text[k] > 'z') {
                    return k;
                }
            }
            return length;
        }

        /** Goes behind the word if it is the next token. */
        private boolean takeWord(String word) {
            skipSpaces();
            int end = wordEnd();
            if (end - position != word.length()) {
                return false;
            }
            for (int k = 0; k < word.length(); k++) {
                if (text[position + k] != word.charAt(k)) {
                    return false;
                }
            }
            tokenAt = position;
            position = end;
            return true;
        }

        private boolean needWord(String word) {
            return takeWord(word) || fail(SYNTAX_ERROR, position);
        }

        private boolean needName() {
            skipSpaces();
            int end = wordEnd();
            if (end == position || end - position > Names.MAX_LENGTH) {
                return fail(SYNTAX_ERROR, position);
            }
            name = 0L;
            for (int k = position; k < end; k++) {
                name = Names.withSign(name, text[k]);
            }
            tokenAt = position;
            position = end;
            return true;
        }

        private boolean isDigitNext() {
            skipSpaces();
            return isDigitAt(position);
        }

        private boolean isDigitAt(int place) {
            return place < length && text[place] >= '0' && text[place] <= '9';
        }

        private boolean needNumber(int least, int most) {
            skipSpaces();
            if (!isDigitAt(position)) {
                return fail(SYNTAX_ERROR, position);
            }
            tokenAt = position;
            number = 0;
            for (int k = position; k < length && isDigitAt(k); k++) {
                number = Math.min(10 * number + text[k] - '0', TOO_LARGE);
                position = k + 1;
            }
            return number >= least && number <= most || fail(VALUE_ERROR, tokenAt);
        }

        private boolean needSemicolon() {
            skipSpaces();
            if (position >= length || text[position] != ';') {
                return fail(SYNTAX_ERROR, position);
            }
            position++;
            return true;
        }

        private boolean needEnd() {
            skipSpaces();
            return position >= length || fail(SYNTAX_ERROR, position);
        }
    }

    /** The text that was written last. */
    private static final class PictureWriter {
        // a picture's name, colon, asterisk and space, and each family's name, mark and comma
        private static final int MAX_LENGTH =
                MAX_PICTURES * (Names.MAX_LENGTH + 3 + MAX_FAMILIES * (Names.MAX_LENGTH + 2));

        final byte[] bytes = new byte[MAX_LENGTH];
        int length = 0;

        int writeAll(Archive archive) {
            length = 0;
            for (int p = 0; p < archive.pictures; p++) {
                if (p > 0) {
                    putSign(' ');
                }
                putName(archive.pictureNames[p]);
                putSign(':');
                putHolders(archive, p);
                if (archive.isInDanger(p)) {
                    putSign('*');
                }
            }
            return length;
        }

        private void putHolders(Archive archive, int picture) {
            boolean first = true;
            for (int f = 0; f < archive.families; f++) {
                if (!archive.hasCopy(picture, f)) {
                    continue;
                }
                if (!first) {
                    putSign(',');
                }
                first = false;
                putName(archive.familyNames[f]);
                if (!archive.isHeld(picture, f)) {
                    putSign('!');
                }
            }
        }

        private void putName(long name) {
            for (int place = Names.MAX_LENGTH - 1; place >= 0; place--) {
                int sign = Names.signFromEnd(name, place);
                if (sign != 0) {
                    putSign(sign);
                }
            }
        }

        private void putSign(int sign) {
            if (length < MAX_LENGTH) {
                bytes[length] = (byte) sign;
                length++;
            }
        }
    }
}
