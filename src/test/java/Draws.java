/** Seeds by which a run of draws comes, found backwards from what THE SEED becomes. */
final class Draws {
    static final long FACTOR = 6364136223846793005L, STEP = 1442695040888963407L;
    private static final long TRIES = 10_000_000L;

    private Draws() {
    }

    static long next(long seed) {
        return seed * FACTOR + STEP;
    }

    static int drawnBy(long seed) {
        return (int) (Long.remainderUnsigned(seed >>> 33, 30));
    }

    /** The seed that becomes v: the step backwards, by the factor's inverse. */
    static long seedAheadOf(long v) {
        long inverse = FACTOR;
        for (int i = 0; i < 6; i++) {
            inverse *= 2 - FACTOR * inverse;
        }
        return (v - STEP) * inverse;
    }

    /** A seed by which these numbers are drawn, one behind the other. */
    static long seedThatDraws(int... drawn) {
        for (long tried = 0; tried < TRIES; tried++) {
            long seed = seedAheadOf(((drawn[0] + 30 * (tried % 1000)) << 33) + tried);
            if (draws(seed, drawn)) {
                return seed;
            }
        }
        throw new IllegalStateException("no seed found");
    }

    private static boolean draws(long seed, int[] drawn) {
        long x = seed;
        for (int one : drawn) {
            x = next(x);
            if (drawnBy(x) != one) {
                return false;
            }
        }
        return true;
    }
}
