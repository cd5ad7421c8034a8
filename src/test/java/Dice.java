/** Numbers that look like chance and are the same in each run. */
final class Dice {
    private long state;

    Dice(long seed) {
        state = seed * 0x9E3779B97F4A7C15L + 1;
    }

    /** From 0 to below the bound. */
    int below(int bound) {
        state = state * 6364136223846793005L + 1442695040888963407L;
        return (int) Long.remainderUnsigned(state >>> 20, bound);
    }

    int from(int low, int high) {
        return low + below(high - low + 1);
    }

    boolean oneIn(int bound) {
        return below(bound) == 0;
    }
}
