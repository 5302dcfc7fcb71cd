/** The edges that the sections "Promise 1" to "Promise 15" name, one test each, on both sides. */
final class EdgesTest {
    private static final Class<IndexOutOfBoundsException> INDEX = IndexOutOfBoundsException.class;
    private static final Class<IllegalArgumentException> ARGUMENT = IllegalArgumentException.class;
    private static final int NONE = RegionShares.NONE;
    private static final Check CHECK = new Check();

    public static void main(String[] args) {
        newObjectHasNoRegions();
        newObjectHasNoResults();
        objectsAreApart();
        valueIsCutTowardsZero();
        valueTellsWhetherAnother();
        valueThatIsNotSo();
        valueRefusedLeavesTheOld();
        touchesTellsWhetherItDidNot();
        touchesStays();
        batchesAtFirstAndFull();
        batchOfNoShare();
        runOfWrongWorkers();
        runOfWrongWorkersIsNoRun();
        runCountsItsOwnResults();
        joinedWithoutAny();
        joinedOfTheLatestNotRefused();
        joinedIsNotMadeAnew();
        plainIsOfAllSharesNow();
        failAtTellsWhetherItDidNot();
        failAtOfNoWorker();
        failAtStays();
        timesFromNoneToSixteen();
        timesOfTheLatestRunAlone();
        actOfNoRank();
        actWhenTwentyWait();
        actRefusedDoesNotWait();
        workCountsAllRuns();
        stopTurnsOnAndOff();
        brokenAndLiveFromNoneToAll();
        brokenAndLiveOfTheLatestRun();
        refusedCallsLeaveAll();
        fiveHundredAndTwelveCalls();
        CHECK.end();
    }

    private static void due(String call, Object got, Object want) {
        CHECK.due(call, got, want);
    }

    private static void newObjectHasNoRegions() {
        CHECK.about("promise 1: no regions touched");
        for (int region = 0; region <= 30; region++) {
            RegionShares x = new RegionShares(40);
            for (int share = 0; share < 40; share++) {
                due("touches(" + share + ", " + region + ")", x.touches(share, region), true);
            }
        }
    }

    private static void newObjectHasNoResults() {
        CHECK.about("promise 1: no results");
        RegionShares x = new RegionShares(40);
        due("joined()", x.joined(), 0.0);
        x.value(0, 3.0);
        due("joined() behind value", x.joined(), 0.0);
        due("plain()", x.plain(), 790.5);
        x.run(1, 1L);
        due("joined() behind a run", x.joined(), 790.5);
    }

    private static void objectsAreApart() {
        CHECK.about("promise 1: an object has nothing of another");
        RegionShares used = Made.chain(2);
        used.value(0, 5.0);
        Made.breakAll(used, 16, 0);
        used.act(9);
        used.run(4, 1L);
        used.stop(1);
        RegionShares x = new RegionShares(2);
        due("plain()", x.plain(), 1.0);
        due("batches()", x.batches(), 1);
        due("work()", x.work(), 0L);
        due("times(0)", x.times(0), 0);
        due("broken()", x.broken(), 0);
        due("act(0)", x.act(0), 0);
        due("stop(1)", x.stop(1), true);
        due("stop(1)", x.stop(1), false);
        due("run(1, 1)", x.run(1, 1L), 2);
    }

    private static void valueIsCutTowardsZero() {
        CHECK.about("promise 2: v * 8.0, cut towards 0, in eighths");
        for (int eighths : new int[] {1, 2, 3, 7, 8, 9, 100, 4001, 7999, 8000}) {
            double v = eighths / 8.0;
            double below = (eighths - 1) / 8.0;
            dueValue(v, v);
            dueValue(-v, -v);
            dueValue(Math.nextDown(v), below);
            dueValue(-Math.nextDown(v), -below);
            dueValue(v - 0.0625, below);
            dueValue(-v + 0.0625, -below);
            if (eighths < 8000) {
                dueValue(Math.nextUp(v), v);
                dueValue(-Math.nextUp(v), -v);
            }
        }
        for (double v : new double[] {0.0, -0.0, Double.MIN_VALUE, -Double.MIN_VALUE, 0.1, -0.1, 1e-300, -1e-300}) {
            dueValue(v, 0.0);
        }
    }

    private static void dueValue(double v, double cut) {
        RegionShares x = new RegionShares(1);
        due("value(0, " + v + ")", x.value(0, v), cut != 0.0);
        due("value(0, " + cut + ") behind value(0, " + v + ")", x.value(0, cut), false);
        due("plain() of value(0, " + v + ")", x.plain(), cut * cut + cut * 0.5 + 0.0);
    }

    private static void valueTellsWhetherAnother() {
        CHECK.about("promise 2: whether it was another one");
        RegionShares x = new RegionShares(2);
        due("value(0, 0.0), as at first", x.value(0, 0.0), false);
        due("value(0, 0.125)", x.value(0, 0.125), true);
        due("value(0, 0.249), the same eighth", x.value(0, 0.249), false);
        due("value(0, -0.125), of another sign", x.value(0, -0.125), true);
        due("value(0, 0.0)", x.value(0, 0.0), true);
        due("value(0, -0.0)", x.value(0, -0.0), false);
        due("value(0, 1.0)", x.value(0, 1.0), true);
        due("value(1, 1.0), of another share", x.value(1, 1.0), true);
        x.run(1, 1L);
        due("value(1, 1.0) behind a run", x.value(1, 1.0), false);
        // 0.5 and -1.0 have the same result.
        due("value(1, 0.5)", x.value(1, 0.5), true);
        due("value(1, -1.0)", x.value(1, -1.0), true);
    }

    private static void valueThatIsNotSo() {
        CHECK.about("promise 2: no such share, or v is not so");
        double[] wrong = {Math.nextUp(1000.0), Math.nextDown(-1000.0), 1000.05, -1000.05, 1000.125, -1000.125, 8000.0,
            -8000.0, 3e8, -3e8, 1e300, -1e300, Double.MAX_VALUE, -Double.MAX_VALUE, Double.POSITIVE_INFINITY,
            Double.NEGATIVE_INFINITY, Double.NaN};
        RegionShares x = new RegionShares(2);
        for (double v : wrong) {
            CHECK.refused("value(1, " + v + ")", ARGUMENT, () -> x.value(1, v));
            for (int share : new int[] {-1, 2}) {
                CHECK.refused("value(" + share + ", " + v + ")", INDEX, () -> x.value(share, v));
            }
        }
    }

    private static void valueRefusedLeavesTheOld() {
        CHECK.about("promise 2: a refused call leaves the value");
        RegionShares x = new RegionShares(1);
        x.value(0, 5.0);
        for (double v : new double[] {Math.nextUp(1000.0), -1001.0, Double.NaN, Double.POSITIVE_INFINITY}) {
            CHECK.refused("value(0, " + v + ")", ARGUMENT, () -> x.value(0, v));
            due("value(0, 5.0)", x.value(0, 5.0), false);
            due("plain()", x.plain(), 27.5);
        }
    }

    private static void touchesTellsWhetherItDidNot() {
        CHECK.about("promise 3: whether it did not");
        RegionShares x = new RegionShares(3);
        for (int region : new int[] {0, 1, 29, 30}) {
            due("touches(1, " + region + ")", x.touches(1, region), true);
            due("touches(1, " + region + ") again", x.touches(1, region), false);
            due("touches(0, " + region + "), another share", x.touches(0, region), true);
            due("touches(1, " + region + ") still", x.touches(1, region), false);
        }
        for (int share : new int[] {-1, 3}) {
            for (int region : new int[] {-1, 0, 30, 31}) {
                CHECK.refused("touches(" + share + ", " + region + ")", INDEX, () -> x.touches(share, region));
            }
        }
        for (int region : new int[] {-1, 31}) {
            for (int share : new int[] {0, 2}) {
                CHECK.refused("touches(" + share + ", " + region + ")", INDEX, () -> x.touches(share, region));
            }
        }
    }

    private static void touchesStays() {
        CHECK.about("promise 3: from now on");
        RegionShares x = Made.chain(2);
        for (int runs = 0; runs < 3; runs++) {
            due("run(1, 1)", x.run(1, 1L), 2);
            due("touches(1, 0) behind a run", x.touches(1, 0), false);
            due("batches()", x.batches(), 2);
        }
    }

    private static void batchesAtFirstAndFull() {
        CHECK.about("promise 4: how many batches there are");
        for (int shares = 1; shares <= 40; shares++) {
            RegionShares x = new RegionShares(shares);
            due("batches() of " + shares + " that touch nothing", x.batches(), 1);
            for (int share = 0; share < shares; share++) {
                x.touches(share, 30);
                due("batches() of " + shares + " when " + (share + 1) + " touch one region", x.batches(), share + 1);
            }
        }
    }

    private static void batchOfNoShare() {
        CHECK.about("promise 5: no such share");
        RegionShares x = Made.chain(40);
        due("batch(0)", x.batch(0), 0);
        due("batch(39)", x.batch(39), 39);
        for (int share : new int[] {-1, 40, Integer.MIN_VALUE, Integer.MAX_VALUE}) {
            CHECK.refused("batch(" + share + ")", INDEX, () -> x.batch(share));
        }
    }

    private static void runOfWrongWorkers() {
        CHECK.about("promise 6: workers are 1 .. 16");
        RegionShares x = new RegionShares(2);
        for (int workers = 1; workers <= 16; workers++) {
            due("run(" + workers + ", 7)", x.run(workers, 7L), 2);
            due("live()", x.live(), workers);
        }
        for (int workers : new int[] {0, -1, -16, 17, 18, 32, 33, Integer.MIN_VALUE, Integer.MAX_VALUE}) {
            CHECK.refused("run(" + workers + ", 7)", ARGUMENT, () -> x.run(workers, 7L));
        }
    }

    private static void runOfWrongWorkersIsNoRun() {
        CHECK.about("promise 6: a call with wrong workers is no run");
        RegionShares x = Made.chain(2);
        x.act(3);
        x.act(3);
        x.act(3);
        x.failAt(0, 1);
        due("run(1, 7)", x.run(1, 7L), NONE);
        x.stop(1);
        due("run(1, 7)", x.run(1, 7L), 1);
        x.value(0, 4.0);
        for (int workers : new int[] {0, 17}) {
            CHECK.refused("run(" + workers + ", 7)", ARGUMENT, () -> x.run(workers, 7L));
            due("joined()", x.joined(), 0.0);
            due("times(0)", x.times(0), 1);
            due("work()", x.work(), 4L);
            due("broken()", x.broken(), 0);
            due("live()", x.live(), 1);
        }
        due("act(3)", x.act(3), 2);
    }

    private static void runCountsItsOwnResults() {
        CHECK.about("promise 6: how many shares have their results by it; NONE, refused");
        RegionShares x = Made.chain(4);
        due("run(1, 1)", x.run(1, 1L), 4);
        x.stop(2);
        due("run(1, 1), fewer than ahead of it", x.run(1, 1L), 2);
        x.stop(0);
        due("run(1, 1), none", x.run(1, 1L), 0);
        x.stop(0);
        x.failAt(0, 0);
        due("run(1, 1), refused at the first", x.run(1, 1L), NONE);
        due("run(2, 1), done by the other or by both", x.run(2, 1L), 2);
        due("NONE", NONE, -1);
    }

    private static void joinedWithoutAny() {
        CHECK.about("promise 7: 0.0 without any");
        RegionShares x = new RegionShares(3);
        x.value(1, 10.0);
        due("joined() ahead of a run", x.joined(), 0.0);
        x.failAt(0, 2);
        due("run(1, 1)", x.run(1, 1L), NONE);
        due("joined() behind a refused run alone", x.joined(), 0.0);
        CHECK.refused("run(0, 1)", ARGUMENT, () -> x.run(0, 1L));
        due("joined() behind a wrong run", x.joined(), 0.0);
        due("run(2, 1)", x.run(2, 1L), 3);
        due("joined() behind a run", x.joined(), 108.0);
        x.stop(2);
        due("run(2, 1) that does nothing", x.run(2, 1L), 0);
        due("joined() of a run without results", x.joined(), 0.0);
    }

    private static void joinedOfTheLatestNotRefused() {
        CHECK.about("promise 7: of the latest run that was not refused");
        RegionShares x = Made.chain(3);
        x.run(1, 1L);
        due("joined()", x.joined(), 3.0);
        x.stop(2);
        x.run(1, 1L);
        due("joined() of the two ahead of a stop, not of the run ahead", x.joined(), 1.0);
        x.failAt(0, 0);
        due("run(1, 1)", x.run(1, 1L), NONE);
        due("joined() behind a refused one", x.joined(), 1.0);
        x.stop(0);
        due("run(1, 1)", x.run(1, 1L), 0);
        due("joined() of none, which was not refused", x.joined(), 0.0);
    }

    private static void joinedIsNotMadeAnew() {
        CHECK.about("promise 7: results are those of the run, whatever is told behind it");
        RegionShares x = new RegionShares(3);
        x.value(2, 1.0);
        x.run(1, 1L);
        due("joined()", x.joined(), 4.5);
        x.value(2, 3.0);
        x.touches(0, 0);
        x.touches(2, 0);
        x.stop(0);
        x.failAt(0, 0);
        due("joined()", x.joined(), 4.5);
        due("plain()", x.plain(), 13.5);
    }

    private static void plainIsOfAllSharesNow() {
        CHECK.about("promise 8: all shares' results, as one worker would make them now");
        RegionShares x = Made.chain(40);
        due("plain() ahead of a run", x.plain(), 780.0);
        for (int share = 0; share < 40; share++) {
            x.stop(share);
            x.failAt(0, share);
        }
        due("plain() when all are stopped and break", x.plain(), 780.0);
        x.run(1, 1L);
        due("plain() behind an empty run", x.plain(), 780.0);
        x.value(39, -1000.0);
        due("plain() behind value", x.plain(), 1000280.0);
        x.value(0, 0.125);
        due("plain() behind value", x.plain(), 1000280.078125);
    }

    private static void failAtTellsWhetherItDidNot() {
        CHECK.about("promise 9: whether it did not");
        RegionShares x = new RegionShares(4);
        for (int worker = 0; worker < 16; worker++) {
            for (int share = 0; share < 4; share++) {
                due("failAt(" + worker + ", " + share + ")", x.failAt(worker, share), true);
                due("failAt(" + worker + ", " + share + ") again", x.failAt(worker, share), false);
            }
        }
    }

    private static void failAtOfNoWorker() {
        CHECK.about("promise 9: no such worker, or share");
        RegionShares x = new RegionShares(2);
        for (int worker : new int[] {-1, 16, 17, 32, 48, -16, -32, Integer.MIN_VALUE, Integer.MAX_VALUE}) {
            for (int share : new int[] {-1, 0, 1, 2}) {
                CHECK.refused("failAt(" + worker + ", " + share + ")", INDEX, () -> x.failAt(worker, share));
            }
        }
        for (int share : new int[] {-1, 2}) {
            for (int worker : new int[] {0, 15}) {
                CHECK.refused("failAt(" + worker + ", " + share + ")", INDEX, () -> x.failAt(worker, share));
            }
        }
        due("run(1, 1) behind refused ones", x.run(1, 1L), 2);
        due("failAt(15, 1)", x.failAt(15, 1), true);
        due("failAt(0, 0)", x.failAt(0, 0), true);
    }

    private static void failAtStays() {
        CHECK.about("promise 9: from now on");
        RegionShares x = new RegionShares(1);
        x.failAt(0, 0);
        for (int runs = 0; runs < 3; runs++) {
            due("run(1, 1)", x.run(1, 1L), NONE);
            due("failAt(0, 0)", x.failAt(0, 0), false);
        }
    }

    private static void timesFromNoneToSixteen() {
        CHECK.about("promise 10: how often a share was begun, refused runs too");
        for (int workers = 1; workers <= 16; workers++) {
            RegionShares x = Made.chain(3);
            due("times(1) ahead of a run", x.times(1), 0);
            Made.breakAll(x, workers, 1);
            due("run(" + workers + ", 2)", x.run(workers, 2L), NONE);
            due("times(0)", x.times(0), 1);
            due("times(1) when all of " + workers + " break", x.times(1), workers);
            due("times(2)", x.times(2), 0);
        }
        RegionShares x = new RegionShares(3);
        for (int share : new int[] {-1, 3, Integer.MIN_VALUE, Integer.MAX_VALUE}) {
            CHECK.refused("times(" + share + ")", INDEX, () -> x.times(share));
        }
    }

    private static void timesOfTheLatestRunAlone() {
        CHECK.about("promise 10: in the latest run");
        RegionShares x = Made.chain(2);
        x.run(1, 1L);
        x.run(1, 1L);
        due("times(1) behind two runs", x.times(1), 1);
        x.failAt(0, 0);
        x.run(1, 1L);
        due("times(0) behind a refused run", x.times(0), 1);
        due("times(1) behind a refused run", x.times(1), 0);
        x.stop(0);
        x.run(1, 1L);
        due("times(0) behind an empty run", x.times(0), 0);
    }

    private static void actOfNoRank() {
        CHECK.about("promise 11: a rank is 0 .. 9");
        RegionShares x = new RegionShares(1);
        for (int rank = 9; rank >= 0; rank--) {
            due("act(" + rank + ")", x.act(rank), 9 - rank);
        }
        for (int rank : new int[] {-1, 10, 11, 32, Integer.MIN_VALUE, Integer.MAX_VALUE}) {
            CHECK.refused("act(" + rank + ")", ARGUMENT, () -> x.act(rank));
        }
        due("act(0): refused ones do not wait", x.act(0), 10);
    }

    private static void actWhenTwentyWait() {
        CHECK.about("promise 11: NONE when 20 wait");
        for (int rank = 0; rank <= 9; rank++) {
            RegionShares x = new RegionShares(1);
            for (int wait = 0; wait < 20; wait++) {
                due("act(" + rank + ") when " + wait + " wait", x.act(rank), wait);
            }
            due("act(0) when 20 wait", x.act(0), NONE);
            due("act(9) when 20 wait", x.act(9), NONE);
            due("act(" + rank + ") when 20 wait", x.act(rank), NONE);
            CHECK.refused("act(10) when 20 wait", ARGUMENT, () -> x.act(10));
            CHECK.refused("act(-1) when 20 wait", ARGUMENT, () -> x.act(-1));
        }
    }

    private static void actRefusedDoesNotWait() {
        CHECK.about("promise 11: what was answered with NONE does not wait");
        RegionShares x = Made.chain(2);
        for (int wait = 0; wait < 20; wait++) {
            x.act(4);
        }
        due("act(9) when 20 wait", x.act(9), NONE);
        x.run(1, 1L);
        due("work()", x.work(), 4L);
        due("act(9) when 18 wait", x.act(9), 0);
        due("act(4) when 19 wait", x.act(4), 19);
        due("act(9) when 20 wait", x.act(9), NONE);
        x.failAt(0, 0);
        x.run(1, 1L);
        due("act(9) when 20 wait, behind a refused run", x.act(9), NONE);
    }

    private static void workCountsAllRuns() {
        CHECK.about("promise 12: shares begun in all runs, and acts let in");
        RegionShares x = Made.chain(2);
        due("work() of a new object", x.work(), 0L);
        x.act(0);
        x.act(0);
        x.act(0);
        due("work() when acts wait", x.work(), 0L);
        due("run(1, 1)", x.run(1, 1L), 2);
        due("work() with 2 begun, 2 let in", x.work(), 4L);
        Made.breakAll(x, 3, 1);
        due("run(3, 1)", x.run(3, 1L), NONE);
        due("work() with 4 begun in a refused run", x.work(), 8L);
        x.stop(0);
        due("run(3, 1)", x.run(3, 1L), 0);
        due("work() behind an empty run", x.work(), 8L);
        CHECK.refused("run(0, 1)", ARGUMENT, () -> x.run(0, 1L));
        due("work() behind a wrong run", x.work(), 8L);
        x.stop(0);
        due("run(4, 1)", x.run(4, 1L), 2);
        due("work() with breaks and the last act", x.work(), 8L + x.times(0) + x.times(1) + 1L);
        due("run(4, 1)", x.run(4, 1L), 2);
        due("work() without an act", x.work(), 9L + 2 * (x.times(0) + x.times(1)));
    }

    private static void stopTurnsOnAndOff() {
        CHECK.about("promise 13: stopped from now on, or, when it is, no more");
        RegionShares x = Made.chain(40);
        for (int share : new int[] {39, 1, 0}) {
            due("stop(" + share + ")", x.stop(share), true);
            due("run(1, 1)", x.run(1, 1L), share);
            due("run(1, 1), still", x.run(1, 1L), share);
            due("stop(" + share + ") again", x.stop(share), false);
            due("run(1, 1)", x.run(1, 1L), 40);
            due("run(1, 1), still", x.run(1, 1L), 40);
        }
        due("stop(5)", x.stop(5), true);
        due("stop(6), another share", x.stop(6), true);
        due("stop(5) again", x.stop(5), false);
        due("run(1, 1)", x.run(1, 1L), 6);
        for (int share : new int[] {-1, 40, Integer.MIN_VALUE, Integer.MAX_VALUE}) {
            CHECK.refused("stop(" + share + ")", INDEX, () -> x.stop(share));
        }
        due("run(1, 1) behind refused ones", x.run(1, 1L), 6);
    }

    private static void brokenAndLiveFromNoneToAll() {
        CHECK.about("promises 14 and 15: from none to all");
        for (int broken = 0; broken <= 16; broken++) {
            RegionShares x = new RegionShares(40);
            for (int share = 0; share < 40 && broken > 0; share += 5) {
                Made.breakAll(x, broken, share);
            }
            due("run(16, 5)", x.run(16, 5L), broken < 16 ? 40 : NONE);
            int begun = 0;
            for (int share = 0; share < 40; share++) {
                begun += x.times(share);
            }
            due("broken() is how often a share was begun anew", x.broken(), broken < 16 ? begun - 40 : 16);
            due("broken() at most " + broken, x.broken() <= broken, true);
            due("live()", x.live(), 16 - x.broken());
        }
        RegionShares edge = new RegionShares(1);
        due("broken() ahead of a run", edge.broken(), 0);
        due("live() ahead of a run", edge.live(), 0);
        edge.run(1, 5L);
        due("broken() of one that does not break", edge.broken(), 0);
        due("live() of one that does not break", edge.live(), 1);
        edge.failAt(0, 0);
        edge.run(1, 5L);
        due("broken() of one that breaks", edge.broken(), 1);
        due("live() of one that breaks", edge.live(), 0);
    }

    private static void brokenAndLiveOfTheLatestRun() {
        CHECK.about("promises 14 and 15: of the latest run, refused ones too");
        RegionShares x = Made.chain(2);
        Made.breakAll(x, 4, 1);
        x.run(4, 5L);
        due("broken() of a refused run", x.broken(), 4);
        due("live() of a refused run", x.live(), 0);
        x.stop(1);
        x.run(3, 5L);
        due("broken() of a run that ends ahead of the breaks", x.broken(), 0);
        due("live() of a run that ends ahead of the breaks", x.live(), 3);
        x.stop(1);
        x.failAt(0, 0);
        due("live() behind what is told behind the run", x.live(), 3);
        CHECK.refused("run(17, 5)", ARGUMENT, () -> x.run(17, 5L));
        due("live() behind a wrong run", x.live(), 3);
        x.run(1, 5L);
        due("broken() of one", x.broken(), 1);
    }

    /** Each wrong call beside an object that did not get it: all that is answered behind it is the same. */
    private static void refusedCallsLeaveAll() {
        CHECK.about("a refused call leaves all as it was");
        RegionShares x = used();
        RegionShares twin = used();
        dueSame("as made", x, twin);
        CHECK.refused("value(5, 1.0)", INDEX, () -> x.value(5, 1.0));
        CHECK.refused("value(0, 1001.0)", ARGUMENT, () -> x.value(0, 1001.0));
        CHECK.refused("touches(5, 1)", INDEX, () -> x.touches(5, 1));
        CHECK.refused("touches(4, 31)", INDEX, () -> x.touches(4, 31));
        CHECK.refused("touches(4, -1)", INDEX, () -> x.touches(4, -1));
        CHECK.refused("batch(5)", INDEX, () -> x.batch(5));
        CHECK.refused("run(0, 3)", ARGUMENT, () -> x.run(0, 3L));
        CHECK.refused("run(17, 3)", ARGUMENT, () -> x.run(17, 3L));
        CHECK.refused("failAt(16, 0)", INDEX, () -> x.failAt(16, 0));
        CHECK.refused("failAt(-1, 0)", INDEX, () -> x.failAt(-1, 0));
        CHECK.refused("failAt(0, 5)", INDEX, () -> x.failAt(0, 5));
        CHECK.refused("times(5)", INDEX, () -> x.times(5));
        CHECK.refused("act(10)", ARGUMENT, () -> x.act(10));
        CHECK.refused("act(-1)", ARGUMENT, () -> x.act(-1));
        CHECK.refused("stop(5)", INDEX, () -> x.stop(5));
        CHECK.refused("stop(-1)", INDEX, () -> x.stop(-1));
        dueSame("behind refused calls", x, twin);
        due("run(3, 11)", x.run(3, 11L), twin.run(3, 11L));
        dueSame("behind a run", x, twin);
        for (int share = 0; share < 5; share++) {
            due("stop(" + share + ")", x.stop(share), twin.stop(share));
            due("value(" + share + ", 0.0)", x.value(share, 0.0), twin.value(share, 0.0));
            for (int worker = 0; worker < 16; worker++) {
                due("failAt(" + worker + ", " + share + ")", x.failAt(worker, share), twin.failAt(worker, share));
            }
            for (int region = 0; region <= 30; region++) {
                due("touches(" + share + ", " + region + ")", x.touches(share, region), twin.touches(share, region));
            }
        }
        due("act(0)", x.act(0), twin.act(0));
    }

    private static RegionShares used() {
        RegionShares x = new RegionShares(5);
        x.value(0, 2.0);
        x.value(4, -3.5);
        x.touches(0, 3);
        x.touches(1, 3);
        x.touches(3, 3);
        x.failAt(0, 1);
        x.failAt(2, 0);
        x.act(3);
        x.act(6);
        x.act(6);
        x.stop(3);
        x.run(3, 8L);
        return x;
    }

    private static void dueSame(String when, RegionShares x, RegionShares twin) {
        due(when + ": batches()", x.batches(), twin.batches());
        due(when + ": joined()", x.joined(), twin.joined());
        due(when + ": plain()", x.plain(), twin.plain());
        due(when + ": work()", x.work(), twin.work());
        due(when + ": broken()", x.broken(), twin.broken());
        due(when + ": live()", x.live(), twin.live());
        for (int share = 0; share < 5; share++) {
            due(when + ": batch(" + share + ")", x.batch(share), twin.batch(share));
            due(when + ": times(" + share + ")", x.times(share), twin.times(share));
        }
    }

    /** The dearest calls an object can get: each run begins 40 shares, one of them 16 times. */
    private static void fiveHundredAndTwelveCalls() {
        CHECK.about("an object is used for 512 calls");
        RegionShares x = new RegionShares(40);
        Made.breakAll(x, 16, 39);
        for (int call = 16; call < 511; call++) {
            due("run(16, " + call + ")", x.run(16, call), NONE);
        }
        due("work() as the 512th", x.work(), 495L * 55L);
        RegionShares y = Made.chain(40);
        for (int call = 40; call < 510; call += 2) {
            due("act(1)", y.act(1), 0);
            due("run(1, " + call + ")", y.run(1, call), 40);
        }
        due("joined() as the 511th", y.joined(), 780.0);
        due("work() as the 512th", y.work(), 235L * 41L);
    }
}
