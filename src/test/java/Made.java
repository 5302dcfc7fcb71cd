/** Objects that several tests begin with. */
final class Made {
    private Made() {
    }

    /** Each share touches region 0, so each is a batch of its own, with its own number. */
    static RegionShares chain(int shares) {
        RegionShares x = new RegionShares(shares);
        for (int share = 0; share < shares; share++) {
            x.touches(share, 0);
        }
        return x;
    }

    /** Workers 0 .. workers - 1 break at the share. */
    static void breakAll(RegionShares x, int workers, int share) {
        for (int worker = 0; worker < workers; worker++) {
            x.failAt(worker, share);
        }
    }
}
