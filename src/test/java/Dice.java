/** Numbers that look like chance and are the same in every run. */
final class Dice {
    private long state;

    Dice(long seed) {
        state = seed * 0x9E3779B97F4A7C15L + 1;
        from(0, 1);
        from(0, 1);
    }

    /** A number from low to high, both with it. */
    int from(int low, int high) {
        state = state * 6364136223846793005L + 1442695040888963407L;
        return low + (int) Long.remainderUnsigned(state >>> 20, (long) high - low + 1);
    }
}
