/** Numbers that look like chance but are always the same ones, so that a failure can be seen again. */
final class MadeUp {
    private long state;

    MadeUp(long seed) {
        state = seed;
    }

    /** A number from 0 to most. */
    int next(int most) {
        state = state * 6364136223846793005L + 1442695040888963407L;
        return (int) Math.floorMod(state >>> 33, (long) most + 1);
    }
}
