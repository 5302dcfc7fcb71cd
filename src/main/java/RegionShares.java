/**
 * Shares of work done batch by batch by workers that may break. What is joined is what one
 * worker alone would make of the batches done, whoever was drawn for them.
 */
public final class RegionShares {
    public static final int NONE = -1;

    private static final int MOST_SHARES = 40;
    private static final int REGION_COUNT = 31;
    private static final int MOST_WORKERS = 16;

    private final int shares;
    private final double[] values;
    private final boolean[] stopped;
    /** Bit r of a share's entry: it touches region r. */
    private final int[] regions;
    /** Bit w of a share's entry: worker w breaks there. */
    private final int[] breakers;

    private final int[] batchOf;
    /** The regions that a batch's members touch together; none for a batch that has no members. */
    private final int[] batchRegions;
    private int batchCount;

    private final Crew crew;
    private final WaitingActs waitingActs;
    private final int[] begun;
    private long workDone;
    /** Kept as a sum: values may change behind the run, its results do not. */
    private double joinedSum;

    public RegionShares(int shares) {
        int count = Math.max(1, Math.min(MOST_SHARES, shares));
        this.shares = count;
        values = new double[count];
        stopped = new boolean[count];
        regions = new int[count];
        breakers = new int[count];
        batchOf = new int[count];
        batchRegions = new int[count];
        // No share touches a region yet, so batch 0, which all entries name, has them all.
        batchCount = 1;
        crew = new Crew();
        waitingActs = new WaitingActs();
        begun = new int[count];
        workDone = 0L;
        joinedSum = 0.0;
    }

    public boolean value(int share, double v) throws IndexOutOfBoundsException, IllegalArgumentException {
        requireShare(share);
        // Asked this way round, NaN is refused too.
        boolean inRange = v >= -1000.0 && v <= 1000.0;
        if (!inRange) {
            throw new IllegalArgumentException("a value is -1000.0 to 1000.0");
        }
        int eighths = (int) (v * 8.0);
        double cut = eighths / 8.0;
        boolean another = values[share] != cut;
        values[share] = cut;
        return another;
    }

    public boolean touches(int share, int region) throws IndexOutOfBoundsException {
        requireShare(share);
        if (region < 0 || region >= REGION_COUNT) {
            throw new IndexOutOfBoundsException("no such region");
        }
        int bit = 1 << region;
        if ((regions[share] & bit) != 0) {
            return false;
        }
        regions[share] |= bit;
        sortIntoBatches();
        return true;
    }

    public int batches() {
        return batchCount;
    }

    public int batch(int share) throws IndexOutOfBoundsException {
        requireShare(share);
        return batchOf[share];
    }

    public int run(int workers, long seed) throws IllegalArgumentException {
        if (workers < 1 || workers > MOST_WORKERS) {
            throw new IllegalArgumentException("workers are 1 to 16");
        }
        crew.gather(workers, seed);
        forgetBegun();
        int due = batchesAheadOfStop();
        for (int batch = 0; batch < due; batch++) {
            if (!doBatch(batch)) {
                return NONE;
            }
        }
        // Acts and results wait until here, since a refused run lets none in and changes none.
        letActsIn(due);
        joinedSum = sumAheadOf(due);
        return countAheadOf(due);
    }

    public double joined() {
        return joinedSum;
    }

    public double plain() {
        return sumAheadOf(batchCount);
    }

    public boolean failAt(int worker, int share) throws IndexOutOfBoundsException {
        if (worker < 0 || worker >= MOST_WORKERS) {
            throw new IndexOutOfBoundsException("no such worker");
        }
        requireShare(share);
        boolean news = !breaksAt(worker, share);
        breakers[share] |= 1 << worker;
        return news;
    }

    public int times(int share) throws IndexOutOfBoundsException {
        requireShare(share);
        return begun[share];
    }

    public int act(int rank) throws IllegalArgumentException {
        if (rank < 0 || rank >= WaitingActs.RANKS) {
            throw new IllegalArgumentException("a rank is 0 to 9");
        }
        return waitingActs.add(rank);
    }

    public long work() {
        return workDone;
    }

    public boolean stop(int share) throws IndexOutOfBoundsException {
        requireShare(share);
        stopped[share] = !stopped[share];
        return stopped[share];
    }

    public int broken() {
        return crew.brokenCount();
    }

    public int live() {
        return crew.liveCount();
    }

    private void requireShare(int share) {
        if (share < 0 || share >= shares) {
            throw new IndexOutOfBoundsException("no such share");
        }
    }

    private void sortIntoBatches() {
        for (int batch = 0; batch < shares; batch++) {
            batchRegions[batch] = 0;
        }
        batchCount = 0;
        for (int share = 0; share < shares; share++) {
            int batch = lowestBatchFor(share);
            batchRegions[batch] |= regions[share];
            batchOf[share] = batch;
            batchCount = Math.max(batchCount, batch + 1);
        }
    }

    /** At most the share's own number, since no more batches than that have members ahead of it. */
    private int lowestBatchFor(int share) {
        for (int batch = 0; batch < share; batch++) {
            if ((batchRegions[batch] & regions[share]) == 0) {
                return batch;
            }
        }
        return share;
    }

    private void forgetBegun() {
        for (int share = 0; share < shares; share++) {
            begun[share] = 0;
        }
    }

    private int batchesAheadOfStop() {
        int ahead = batchCount;
        for (int share = 0; share < shares; share++) {
            if (stopped[share]) {
                ahead = Math.min(ahead, batchOf[share]);
            }
        }
        return ahead;
    }

    /** Whether all its shares were done; if not, no worker is live. */
    private boolean doBatch(int batch) {
        for (int share = 0; share < shares; share++) {
            if (batchOf[share] == batch && !doShare(share)) {
                return false;
            }
        }
        return true;
    }

    /** Whether a worker did not break there; if not, no worker is live. */
    private boolean doShare(int share) {
        for (int tries = 0; tries < MOST_WORKERS; tries++) {
            int worker = crew.draw();
            if (worker == NONE) {
                return false;
            }
            begun[share]++;
            workDone++;
            if (!breaksAt(worker, share)) {
                return true;
            }
            crew.dismiss(worker);
        }
        return false;
    }

    private boolean breaksAt(int worker, int share) {
        return (breakers[share] & (1 << worker)) != 0;
    }

    private void letActsIn(int batchesDone) {
        for (int batch = 0; batch < batchesDone; batch++) {
            if (waitingActs.letOneIn()) {
                workDone++;
            }
        }
    }

    private double sumAheadOf(int batch) {
        double sum = 0.0;
        for (int share = 0; share < shares; share++) {
            if (batchOf[share] < batch) {
                sum += resultOf(share);
            }
        }
        return sum;
    }

    private int countAheadOf(int batch) {
        int count = 0;
        for (int share = 0; share < shares; share++) {
            if (batchOf[share] < batch) {
                count++;
            }
        }
        return count;
    }

    private double resultOf(int share) {
        double v = values[share];
        return v * v + v * 0.5 + share;
    }

    /** The workers of the latest run, and its draws among them. */
    private static final class Crew {
        private static final long DRAW_FACTOR = 6364136223846793005L;
        private static final long DRAW_STEP = 1442695040888963407L;
        private static final int DRAW_SHIFT = 33;

        private int gathered;
        /** Bit w: worker w is live. */
        private int liveBits;
        private long drawState;

        Crew() {
            gathered = 0;
            liveBits = 0;
            drawState = 0L;
        }

        void gather(int workers, long seed) {
            gathered = workers;
            liveBits = (1 << workers) - 1;
            drawState = seed;
        }

        /** The worker drawn, or NONE, and no draw, when none is live. */
        int draw() {
            int count = liveCount();
            if (count == 0) {
                return NONE;
            }
            drawState = drawState * DRAW_FACTOR + DRAW_STEP;
            return liveWorker((int) ((drawState >>> DRAW_SHIFT) % count));
        }

        void dismiss(int worker) {
            liveBits &= ~(1 << worker);
        }

        int liveCount() {
            return Integer.bitCount(liveBits);
        }

        int brokenCount() {
            return gathered - liveCount();
        }

        private int liveWorker(int number) {
            int ahead = number;
            for (int worker = 0; worker < MOST_WORKERS; worker++) {
                if ((liveBits & (1 << worker)) != 0) {
                    if (ahead == 0) {
                        return worker;
                    }
                    ahead--;
                }
            }
            return NONE;
        }
    }

    /** Acts of one rank cannot be told apart by any answer, so counting them keeps their order. */
    private static final class WaitingActs {
        private static final int RANKS = 10;
        private static final int MOST_WAITING = 20;

        private final int[] countOfRank;
        private int waiting;

        WaitingActs() {
            countOfRank = new int[RANKS];
            waiting = 0;
        }

        /** How many wait ahead of the new one; NONE, and nothing is added, when all places are taken. */
        int add(int rank) {
            if (waiting >= MOST_WAITING) {
                return NONE;
            }
            int ahead = 0;
            for (int other = rank; other < RANKS; other++) {
                ahead += countOfRank[other];
            }
            countOfRank[rank]++;
            waiting++;
            return ahead;
        }

        /** Whether one waited. */
        boolean letOneIn() {
            for (int rank = RANKS - 1; rank >= 0; rank--) {
                if (countOfRank[rank] > 0) {
                    countOfRank[rank]--;
                    waiting--;
                    return true;
                }
            }
            return false;
        }
    }
}
