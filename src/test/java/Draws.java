/** The document's draws, to be held against those of the class, which show by who breaks. */
final class Draws {
    private static final long FACTOR = 6364136223846793005L;
    private static final long STEP = 1442695040888963407L;

    private Draws() {
    }

    static long next(long s) {
        return s * FACTOR + STEP;
    }

    static int number(long s, int live) {
        return (int) ((s >>> 33) % live);
    }

    /** The seed from which the first draw makes s. */
    static long seedOf(long s) {
        long inverse = FACTOR;
        // Each round doubles the low bits in which factor * inverse is 1; it begins with three.
        for (int round = 0; round < 5; round++) {
            inverse *= 2L - FACTOR * inverse;
        }
        return (s - STEP) * inverse;
    }

    static int firstDrawn(int workers, long seed) {
        return drawnAt(0, workers, seed);
    }

    /** The worker that is drawn for a share when none broke ahead of it; -2 when not just one is. */
    static int drawnAt(int share, int workers, long seed) {
        int found = -2;
        int count = 0;
        for (int worker = 0; worker < workers; worker++) {
            RegionShares x = new RegionShares(share + 1);
            x.failAt(worker, share);
            x.run(workers, seed);
            if (x.broken() == 1) {
                found = worker;
                count++;
            }
        }
        return count == 1 ? found : -2;
    }
}
