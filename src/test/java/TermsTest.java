import java.math.BigInteger;

/** The sentences of the document's "Terms", one test each, on both sides of the boundary that it names. */
final class TermsTest {
    private static final Class<IndexOutOfBoundsException> INDEX = IndexOutOfBoundsException.class;
    private static final Class<IllegalArgumentException> ARGUMENT = IllegalArgumentException.class;
    private static final int NONE = RegionShares.NONE;
    private static final Check CHECK = new Check();

    public static void main(String[] args) {
        sharesAreOneToForty();
        valuesAreUpToAThousand();
        valuesAreZeroAtFirst();
        regionsAreZeroToThirty();
        resultIsMadeOfValueAndNumber();
        batchIsTheLowestApart();
        batchIsApartFromEachMember();
        batchesOfAllTogetherAndAllApart();
        batchesMayBecomeFewer();
        workerBreaksWhereToldAlone();
        runHasItsWorkersAlone();
        runGoesByBatchesThenShares();
        brokenWorkerIsOutForThisRun();
        runIsRefusedWhenNoneIsLive();
        refusedRunLeavesResults();
        stoppedBatchEndsTheRun();
        stopHidesBreaksBehindIt();
        drawBeginsWithTheSeed();
        drawIsShiftedWithoutSign();
        drawIsModuloTheLive();
        drawCountsTheLiveAlone();
        drawWraps();
        drawOfOne();
        oneActBehindEachBatch();
        noActBehindARefusedRun();
        noActBehindAnEmptyRun();
        greatestRankIsLetInFirst();
        firstToldOfARankIsLetInFirst();
        CHECK.end();
    }

    private static void due(String call, Object got, Object want) {
        CHECK.due(call, got, want);
    }

    private static void sharesAreOneToForty() {
        CHECK.about("shares are 1 to 40; what is told below is 1, above 40");
        int[][] toldAndMade = {{Integer.MIN_VALUE, 1}, {-40, 1}, {-1, 1}, {0, 1}, {1, 1}, {2, 2}, {39, 39}, {40, 40},
            {41, 40}, {80, 40}, {Integer.MAX_VALUE, 40}};
        for (int[] row : toldAndMade) {
            String told = row[0] + " told: ";
            int made = row[1];
            RegionShares x = new RegionShares(row[0]);
            due(told + "plain()", x.plain(), made * (made - 1) / 2.0);
            due(told + "run(1, 0)", x.run(1, 0L), made);
            dueShare(told, x, made - 1);
            for (int share : new int[] {-1, made, Integer.MIN_VALUE, Integer.MAX_VALUE}) {
                dueNoShare(told, x, share);
            }
        }
    }

    private static void dueShare(String told, RegionShares x, int share) {
        due(told + "value of the last", x.value(share, 1.0), true);
        due(told + "touches of the last", x.touches(share, 1), true);
        due(told + "batch of the last", x.batch(share), 0);
        due(told + "failAt of the last", x.failAt(1, share), true);
        due(told + "times of the last", x.times(share), 1);
        due(told + "stop of the last", x.stop(share), true);
    }

    private static void dueNoShare(String told, RegionShares x, int share) {
        CHECK.refused(told + "value(" + share + ", 1.0)", INDEX, () -> x.value(share, 1.0));
        CHECK.refused(told + "touches(" + share + ", 1)", INDEX, () -> x.touches(share, 1));
        CHECK.refused(told + "batch(" + share + ")", INDEX, () -> x.batch(share));
        CHECK.refused(told + "failAt(1, " + share + ")", INDEX, () -> x.failAt(1, share));
        CHECK.refused(told + "times(" + share + ")", INDEX, () -> x.times(share));
        CHECK.refused(told + "stop(" + share + ")", INDEX, () -> x.stop(share));
    }

    private static void valuesAreUpToAThousand() {
        CHECK.about("a value is -1000.0 .. 1000.0");
        RegionShares x = new RegionShares(1);
        due("value(0, 1000.0)", x.value(0, 1000.0), true);
        due("plain()", x.plain(), 1000500.0);
        CHECK.refused("value(0, next above 1000.0)", ARGUMENT, () -> x.value(0, Math.nextUp(1000.0)));
        due("value(0, next below 1000.0)", x.value(0, Math.nextDown(1000.0)), true);
        due("plain()", x.plain(), 999.875 * 999.875 + 999.875 * 0.5);
        due("value(0, -1000.0)", x.value(0, -1000.0), true);
        due("plain()", x.plain(), 999500.0);
        CHECK.refused("value(0, next below -1000.0)", ARGUMENT, () -> x.value(0, Math.nextDown(-1000.0)));
        due("plain()", x.plain(), 999500.0);
        due("value(0, next above -1000.0)", x.value(0, Math.nextUp(-1000.0)), true);
        due("plain()", x.plain(), 999.875 * 999.875 - 999.875 * 0.5);
    }

    private static void valuesAreZeroAtFirst() {
        CHECK.about("a value is at first 0.0");
        RegionShares x = new RegionShares(40);
        RegionShares other = new RegionShares(40);
        for (int share = 0; share < 40; share++) {
            due("value(" + share + ", 0.0)", x.value(share, 0.0), false);
            due("value(" + share + ", " + (share % 2 == 0 ? 0.125 : -0.125) + ")",
                    other.value(share, share % 2 == 0 ? 0.125 : -0.125), true);
        }
    }

    private static void regionsAreZeroToThirty() {
        CHECK.about("regions are 0 .. 30");
        for (int region = 0; region <= 30; region++) {
            RegionShares x = new RegionShares(3);
            due("touches(0, " + region + ")", x.touches(0, region), true);
            due("touches(0, " + region + ") again", x.touches(0, region), false);
            for (int other = 0; other <= 30; other++) {
                due("touches(1, " + other + ") beside " + region, x.touches(1, other), true);
                due("batch(1) behind " + other + " beside " + region, x.batch(1), other < region ? 0 : 1);
            }
        }
        RegionShares x = new RegionShares(1);
        for (int region : new int[] {-1, 31, 32, 63, 64, -31, -32, Integer.MIN_VALUE, Integer.MAX_VALUE}) {
            CHECK.refused("touches(0, " + region + ")", INDEX, () -> x.touches(0, region));
        }
        due("touches(0, 0) behind refused ones", x.touches(0, 0), true);
        due("touches(0, 30) behind refused ones", x.touches(0, 30), true);
    }

    private static void resultIsMadeOfValueAndNumber() {
        CHECK.about("a result is value * value + value * 0.5 + the share's number");
        double[][] valueAndMore = {{0.0, 0.0}, {0.125, 0.078125}, {-0.125, -0.046875}, {-0.5, 0.0}, {-0.25, -0.0625},
            {1.0, 1.5}, {-1.0, 0.5}, {3.375, 13.078125}, {1000.0, 1000500.0}, {-1000.0, 999500.0}};
        for (double[] row : valueAndMore) {
            for (int share : new int[] {0, 1, 39}) {
                RegionShares x = new RegionShares(40);
                x.value(share, row[0]);
                x.run(1, 0L);
                due("joined() of value(" + share + ", " + row[0] + ")", x.joined(), 780.0 + row[1]);
                due("plain() of value(" + share + ", " + row[0] + ")", x.plain(), 780.0 + row[1]);
            }
        }
        RegionShares full = new RegionShares(40);
        for (int share = 0; share < 40; share++) {
            full.value(share, 1000.0);
        }
        full.run(16, 0L);
        due("joined() of the greatest values", full.joined(), 40020780.0);
        due("plain() of the greatest values", full.plain(), 40020780.0);
    }

    private static void batchIsTheLowestApart() {
        CHECK.about("a share is in the lowest batch from which it is apart, from share 0 on");
        RegionShares x = new RegionShares(5);
        x.touches(0, 1);
        x.touches(1, 1);
        dueBatches(x, 2, 0, 1, 0, 0, 0);
        x.touches(2, 1);
        x.touches(2, 2);
        dueBatches(x, 3, 0, 1, 2, 0, 0);
        x.touches(3, 2);
        dueBatches(x, 3, 0, 1, 2, 0, 0);
        x.touches(4, 2);
        dueBatches(x, 3, 0, 1, 2, 0, 1);
        x.touches(1, 2);
        dueBatches(x, 4, 0, 1, 2, 0, 3);
        x.touches(0, 2);
        dueBatches(x, 5, 0, 1, 2, 3, 4);
    }

    private static void batchIsApartFromEachMember() {
        CHECK.about("of a batch's members none touches a region that the share touches");
        for (int member = 0; member < 3; member++) {
            RegionShares x = new RegionShares(4);
            x.touches(0, 4);
            x.touches(1, 5);
            x.touches(2, 6);
            x.touches(3, 7);
            dueBatches(x, 1, 0, 0, 0, 0);
            x.touches(3, 4 + member);
            dueBatches(x, 2, 0, 0, 0, 1);
        }
        RegionShares fewer = new RegionShares(3);
        fewer.touches(1, 0);
        fewer.touches(2, 0);
        dueBatches(fewer, 2, 0, 0, 1);
        fewer.touches(0, 1);
        fewer.touches(1, 1);
        dueBatches(fewer, 2, 0, 1, 0);
        due("touches(0, 1) again", fewer.touches(0, 1), false);
        dueBatches(fewer, 2, 0, 1, 0);
    }

    private static void batchesOfAllTogetherAndAllApart() {
        CHECK.about("batches from 1 to as many as there are shares");
        RegionShares apart = new RegionShares(40);
        for (int share = 0; share < 31; share++) {
            apart.touches(share, share);
        }
        due("batches() of 31 shares with a region each and 9 without", apart.batches(), 1);
        RegionShares together = Made.chain(40);
        due("batches() of 40 that touch one region", together.batches(), 40);
        for (int share = 0; share < 40; share++) {
            due("batch(" + share + ")", together.batch(share), share);
        }
        due("run(16, 1)", together.run(16, 1L), 40);
    }

    private static void batchesMayBecomeFewer() {
        CHECK.about("batches are the lowest anew, so a region more can leave fewer of them");
        RegionShares x = new RegionShares(4);
        x.touches(0, 0);
        x.touches(2, 0);
        x.touches(1, 1);
        x.touches(3, 1);
        x.touches(2, 2);
        x.touches(3, 2);
        x.touches(0, 3);
        dueBatches(x, 3, 0, 0, 1, 2);
        x.touches(1, 3);
        dueBatches(x, 2, 0, 1, 1, 0);
        due("run(1, 1)", x.run(1, 1L), 4);
        x.stop(3);
        due("run(1, 1) with 3 stopped, in batch 0", x.run(1, 1L), 0);
    }

    private static void dueBatches(RegionShares x, int count, int... want) {
        due("batches()", x.batches(), count);
        for (int share = 0; share < want.length; share++) {
            due("batch(" + share + ")", x.batch(share), want[share]);
        }
    }

    private static void workerBreaksWhereToldAlone() {
        CHECK.about("a worker breaks at a share that is told so for it");
        RegionShares x = new RegionShares(3);
        due("run(1, 1), nothing told", x.run(1, 1L), 3);
        x.failAt(1, 0);
        x.failAt(1, 1);
        x.failAt(1, 2);
        due("run(1, 1), told for another worker", x.run(1, 1L), 3);
        x.failAt(0, 1);
        due("run(1, 1), told for it", x.run(1, 1L), NONE);
        due("times(0), not told", x.times(0), 1);
        due("times(1), told", x.times(1), 1);
        due("times(2), behind", x.times(2), 0);
    }

    private static void runHasItsWorkersAlone() {
        CHECK.about("a run with n workers has 0 .. n - 1");
        for (int workers = 1; workers <= 16; workers++) {
            RegionShares x = new RegionShares(1);
            for (int worker = 0; worker < 16; worker++) {
                if (worker != workers - 1) {
                    x.failAt(worker, 0);
                }
            }
            for (int few = 1; few <= 16; few++) {
                due("run(" + few + ", 9) when " + (workers - 1) + " alone does not break", x.run(few, 9L),
                        few < workers ? NONE : 1);
                due("broken() + live()", x.broken() + x.live(), few);
            }
        }
    }

    private static void runGoesByBatchesThenShares() {
        CHECK.about("batch by batch, in each share by share, rising");
        int[] order = {0, 2, 4, 1, 3};
        for (int stage = 0; stage < order.length; stage++) {
            RegionShares x = new RegionShares(5);
            x.touches(0, 0);
            x.touches(1, 0);
            x.touches(2, 1);
            x.touches(3, 1);
            Made.breakAll(x, 3, order[stage]);
            due("run(3, 5) that is refused at " + order[stage], x.run(3, 5L), NONE);
            for (int place = 0; place < order.length; place++) {
                due("times(" + order[place] + ")", x.times(order[place]), place < stage ? 1 : place == stage ? 3 : 0);
            }
        }
    }

    private static void brokenWorkerIsOutForThisRun() {
        CHECK.about("a worker that breaks is live no more in this run, and another begins the share anew");
        RegionShares x = new RegionShares(40);
        x.failAt(0, 0);
        long seed = Draws.seedOf(0L);
        due("first drawn of 2", Draws.firstDrawn(2, seed), 0);
        due("run(2, ..)", x.run(2, seed), 40);
        due("times(0)", x.times(0), 2);
        due("broken()", x.broken(), 1);
        due("live()", x.live(), 1);
        x.failAt(1, 39);
        due("run(2, ..) when the other breaks at the last share", x.run(2, seed), NONE);
        due("times(38)", x.times(38), 1);
        due("times(39): the broken one does not begin it", x.times(39), 1);
        due("broken()", x.broken(), 2);
        x.stop(0);
        due("run(2, ..) that begins nothing", x.run(2, seed), 0);
        due("live(): both are live in a new run", x.live(), 2);
        due("broken()", x.broken(), 0);
    }

    private static void runIsRefusedWhenNoneIsLive() {
        CHECK.about("when none is live the run is refused");
        for (int workers = 1; workers <= 16; workers++) {
            RegionShares x = new RegionShares(2);
            Made.breakAll(x, workers - 1, 1);
            due("run(" + workers + ", 6) when all but one break", x.run(workers, 6L), 2);
            due("live() at least", x.live() >= 1, true);
            x.failAt(workers - 1, 1);
            due("run(" + workers + ", 6) when all break", x.run(workers, 6L), NONE);
            due("live()", x.live(), 0);
            due("broken()", x.broken(), workers);
            due("times(1)", x.times(1), workers);
        }
        RegionShares spread = new RegionShares(3);
        Made.breakAll(spread, 2, 0);
        Made.breakAll(spread, 2, 2);
        spread.failAt(2, 2);
        due("run(3, 6): none is left at share 2, wherever they broke", spread.run(3, 6L), NONE);
        due("broken()", spread.broken(), 3);
    }

    private static void refusedRunLeavesResults() {
        CHECK.about("refused: results stay as they were ahead of it");
        RegionShares x = Made.chain(3);
        x.failAt(0, 2);
        due("run(1, 1), the first", x.run(1, 1L), NONE);
        due("joined() without any", x.joined(), 0.0);
        x.stop(1);
        due("run(1, 1) of share 0 alone", x.run(1, 1L), 1);
        x.value(0, 2.0);
        x.stop(1);
        due("joined()", x.joined(), 0.0);
        due("run(1, 1), refused behind two batches", x.run(1, 1L), NONE);
        due("joined(), still of share 0 with 0.0", x.joined(), 0.0);
        x.stop(2);
        due("run(1, 1) of two", x.run(1, 1L), 2);
        due("joined()", x.joined(), 6.0);
        x.stop(2);
        x.value(0, 0.0);
        due("run(1, 1)", x.run(1, 1L), NONE);
        due("run(1, 1) again", x.run(1, 1L), NONE);
        due("joined()", x.joined(), 6.0);
    }

    private static void stoppedBatchEndsTheRun() {
        CHECK.about("a batch that has a stopped share is not done, nor any behind it");
        for (int stopped = 0; stopped < 6; stopped++) {
            RegionShares x = Made.chain(6);
            x.stop(stopped);
            due("run(2, 3) with " + stopped + " stopped", x.run(2, 3L), stopped);
            due("joined()", x.joined(), stopped * (stopped - 1) / 2.0);
            for (int share = 0; share < 6; share++) {
                due("times(" + share + ") with " + stopped + " stopped", x.times(share), share < stopped ? 1 : 0);
            }
            x.stop(5);
            due("run(2, 3), the last told too", x.run(2, 3L), stopped == 5 ? 6 : stopped);
        }
        RegionShares wide = new RegionShares(6);
        wide.touches(0, 8);
        wide.touches(1, 8);
        wide.touches(4, 9);
        wide.touches(5, 9);
        wide.stop(5);
        due("run(2, 3): 5 is stopped, so 1 of its batch is not done", wide.run(2, 3L), 4);
        due("times(1)", wide.times(1), 0);
        due("times(4)", wide.times(4), 1);
        wide.touches(5, 8);
        due("batch(5)", wide.batch(5), 2);
        due("run(2, 3): 5 is in a batch behind now", wide.run(2, 3L), 5);
        wide.stop(4);
        due("run(2, 3): 4 is stopped, so nothing is done", wide.run(2, 3L), 0);
    }

    private static void stopHidesBreaksBehindIt() {
        CHECK.about("the run ends ahead of a stopped batch: what breaks there or behind is not met");
        for (int share = 0; share < 4; share++) {
            RegionShares x = Made.chain(4);
            Made.breakAll(x, 2, share);
            x.stop(2);
            due("run(2, 3) with 2 stopped and breaks at " + share, x.run(2, 3L), share < 2 ? NONE : 2);
            due("live()", x.live(), share < 2 ? 0 : 2);
        }
    }

    private static void drawBeginsWithTheSeed() {
        CHECK.about("s is the seed at first");
        RegionShares x = new RegionShares(40);
        x.failAt(0, 0);
        long seed = Draws.seedOf(0L);
        for (int again = 0; again < 20; again++) {
            x.run(2, seed);
            due("times(0), run " + again + " with a seed that draws 0", x.times(0), 2);
        }
        long other = Draws.seedOf(1L << 33);
        for (int again = 0; again < 20; again++) {
            x.run(2, other);
            due("times(0), run " + again + " with a seed that draws 1", x.times(0), 1);
        }
    }

    private static void drawIsShiftedWithoutSign() {
        CHECK.about("s shifted right by 33, without sign");
        long unit = 1L << 33;
        dueDrawn(16, 0L, 0);
        dueDrawn(16, unit - 1L, 0);
        dueDrawn(16, unit, 1);
        dueDrawn(16, 2L * unit - 1L, 1);
        dueDrawn(16, 15L * unit, 15);
        dueDrawn(16, 16L * unit - 1L, 15);
        dueDrawn(16, 16L * unit, 0);
        dueDrawn(16, -1L, 15);
        dueDrawn(16, -unit, 15);
        dueDrawn(16, -unit - 1L, 14);
        // 2 to the 31st, less 1, is 7 * 306783378 + 1; with its sign it would be -1.
        dueDrawn(7, -1L, 1);
        dueDrawn(7, -unit - 1L, 0);
        dueDrawn(7, Long.MAX_VALUE, 0);
        dueDrawn(7, Long.MIN_VALUE, 1);
    }

    /** Which worker the first draw gives when s has become this. */
    private static void dueDrawn(int workers, long s, int want) {
        due("drawn of " + workers + " for s = " + s, Draws.firstDrawn(workers, Draws.seedOf(s)), want);
    }

    private static void drawIsModuloTheLive() {
        CHECK.about("modulo how many are live");
        for (int workers = 1; workers <= 16; workers++) {
            for (int high = 0; high <= 33; high++) {
                dueDrawn(workers, ((long) high << 33) + 12345L, high % workers);
            }
        }
    }

    private static void drawCountsTheLiveAlone() {
        CHECK.about("the number, from 0, of the worker among the live");
        int[] seen = new int[6];
        for (int mixed = 0; mixed < 60; mixed++) {
            // Small seeds lie too near to one another to give all kinds of two draws.
            long seed = mixed * 0x9E3779B97F4A7C15L;
            long first = Draws.next(seed);
            int broke = Draws.number(first, 3);
            int number = Draws.number(Draws.next(first), 2);
            int second = number < broke ? number : number + 1;
            seen[broke * 2 + number]++;
            for (int worker = 0; worker < 3; worker++) {
                if (worker != broke) {
                    RegionShares x = new RegionShares(1);
                    x.failAt(broke, 0);
                    x.failAt(worker, 0);
                    due("run(3, " + seed + ")", x.run(3, seed), 1);
                    due("times(0) when " + broke + " and " + worker + " break, seed " + seed, x.times(0),
                            worker == second ? 3 : 2);
                }
            }
        }
        for (int kind = 0; kind < 6; kind++) {
            due("kind " + kind + " of two draws came", seen[kind] > 0, true);
        }
    }

    private static void drawWraps() {
        CHECK.about("s * 6364136223846793005 + 1442695040888963407, which wraps");
        long[] seeds = {0L, 1L, -1L, 2L, 1L << 32, Long.MAX_VALUE, Long.MIN_VALUE, 0x123456789ABCDEFL};
        BigInteger factor = new BigInteger("6364136223846793005");
        BigInteger step = new BigInteger("1442695040888963407");
        for (long seed : seeds) {
            BigInteger s = BigInteger.valueOf(seed);
            for (int share = 0; share < 6; share++) {
                s = s.multiply(factor).add(step).mod(BigInteger.ONE.shiftLeft(64));
                int want = s.shiftRight(33).mod(BigInteger.valueOf(16)).intValue();
                due("drawn for share " + share + ", seed " + seed, Draws.drawnAt(share, 16, seed), want);
            }
        }
    }

    /** Whether the one is drawn or taken no answer can show; that it is there for every seed can be seen. */
    private static void drawOfOne() {
        CHECK.about("a draw also when there is but one");
        for (long seed : new long[] {0L, 1L, -1L, Draws.seedOf(-1L), Draws.seedOf(1L << 33), Long.MIN_VALUE}) {
            RegionShares x = new RegionShares(3);
            due("run(1, " + seed + ")", x.run(1, seed), 3);
            due("live()", x.live(), 1);
            Made.breakAll(x, 15, 0);
            due("run(16, " + seed + ") when 15 alone is left", x.run(16, seed), 3);
            due("times(2)", x.times(2), 1);
            x.failAt(0, 1);
            due("run(1, " + seed + ") when it breaks", x.run(1, seed), NONE);
        }
    }

    private static void oneActBehindEachBatch() {
        CHECK.about("acts are let in one behind each batch that a run does");
        for (int batches = 1; batches <= 21; batches++) {
            for (int acts = 0; acts <= 20; acts++) {
                RegionShares x = Made.chain(batches);
                for (int act = 0; act < acts; act++) {
                    x.act(5);
                }
                x.run(1, 1L);
                int in = batches < acts ? batches : acts;
                due("work() of " + batches + " batches, " + acts + " acts", x.work(), (long) batches + in);
                due("act(5) of " + batches + " batches, " + acts + " acts", x.act(5), acts - in);
            }
        }
        RegionShares wide = new RegionShares(40);
        wide.act(5);
        wide.act(5);
        wide.run(1, 1L);
        due("work() of 40 shares in one batch", wide.work(), 41L);
        RegionShares halted = Made.chain(5);
        for (int act = 0; act < 5; act++) {
            halted.act(5);
        }
        halted.stop(3);
        halted.run(1, 1L);
        due("work() of 3 batches ahead of a stop", halted.work(), 6L);
        due("act(5) behind 3 batches ahead of a stop", halted.act(5), 2);
    }

    private static void noActBehindARefusedRun() {
        CHECK.about("acts are let in when the run is not refused");
        for (int share = 0; share < 3; share++) {
            RegionShares x = Made.chain(3);
            x.act(2);
            x.act(7);
            x.failAt(0, share);
            due("run(1, 1) refused at " + share, x.run(1, 1L), NONE);
            due("work()", x.work(), share + 1L);
            due("act(7)", x.act(7), 1);
            due("act(2)", x.act(2), 3);
        }
    }

    private static void noActBehindAnEmptyRun() {
        CHECK.about("a run that does no batch lets no act in");
        RegionShares x = Made.chain(2);
        x.act(2);
        x.stop(0);
        due("run(1, 1)", x.run(1, 1L), 0);
        due("work()", x.work(), 0L);
        due("act(2)", x.act(2), 1);
    }

    private static void greatestRankIsLetInFirst() {
        CHECK.about("acts are let in by the greatest rank");
        int[] told = {0, 9, 4, 5, 9, 0, 1};
        int[] byRank = {9, 9, 5, 4, 1, 0, 0};
        for (int in = 1; in <= told.length; in++) {
            for (int rank = 0; rank <= 9; rank++) {
                RegionShares x = Made.chain(in);
                for (int act : told) {
                    x.act(act);
                }
                x.run(1, 1L);
                int ahead = 0;
                for (int left = in; left < byRank.length; left++) {
                    ahead += byRank[left] >= rank ? 1 : 0;
                }
                due("act(" + rank + ") behind " + in + " batches", x.act(rank), ahead);
            }
        }
    }

    private static void firstToldOfARankIsLetInFirst() {
        CHECK.about("of the same rank the first told one");
        for (int rank = 0; rank <= 9; rank++) {
            RegionShares x = new RegionShares(1);
            due("act(" + rank + ")", x.act(rank), 0);
            due("act(" + rank + "), the same", x.act(rank), 1);
            if (rank > 0) {
                due("act(" + (rank - 1) + "), below", x.act(rank - 1), 2);
            }
            if (rank < 9) {
                due("act(" + (rank + 1) + "), above", x.act(rank + 1), 0);
            }
        }
    }
}
