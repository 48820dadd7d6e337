/** Numbers that look thrown, the same ones for the same start. */
final class Dice {
    private long state;

    Dice(long start) {
        state = start * 0x9E3779B97F4A7C15L + 0x632BE59BD9B4E019L;
    }

    int next(int many) {
        state = state * 6364136223846793005L + 1442695040888963407L;
        return (int) ((state >>> 33) % many);
    }

    boolean oneOf(int many) {
        return next(many) == 0;
    }

    int anyInt() {
        return next(65536) << 16 | next(65536);
    }

    /** Mostly a number from 0 to many - 1, now and then one beyond. */
    int about(int many) {
        if (oneOf(60)) {
            int[] beyond = {-1, many, many + 1, Integer.MIN_VALUE, Integer.MAX_VALUE, anyInt()};
            return beyond[next(beyond.length)];
        }
        return many <= 0 ? next(2) : next(many);
    }
}
