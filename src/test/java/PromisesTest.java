/** Each promise by itself: ordinary inputs, the edges that the document names, wrong inputs. */
final class PromisesTest {
    private static final Class<IndexOutOfBoundsException> INDEX = IndexOutOfBoundsException.class;
    private static final Class<IllegalArgumentException> ARGUMENT = IllegalArgumentException.class;
    private static final Check CHECK = new Check();

    public static void main(String[] args) {
        newObject();
        howManyShares();
        value();
        valueRefused();
        touches();
        batches();
        batch();
        run();
        runDraws();
        runRefused();
        joined();
        plain();
        failAt();
        times();
        act();
        actsLetIn();
        work();
        stop();
        brokenAndLive();
        CHECK.end();
    }

    private static void due(String call, Object got, Object want) {
        CHECK.due(call, got, want);
    }

    private static void newObject() {
        CHECK.about("promise 1");
        RegionShares x = new RegionShares(3);
        due("joined()", x.joined(), 0.0);
        due("plain()", x.plain(), 3.0);
        due("batches()", x.batches(), 1);
        due("batch(2)", x.batch(2), 0);
        due("times(2)", x.times(2), 0);
        due("work()", x.work(), 0L);
        due("broken()", x.broken(), 0);
        due("live()", x.live(), 0);
        due("value(0, 0.0)", x.value(0, 0.0), false);
    }

    private static void howManyShares() {
        CHECK.about("promise 1, how many shares");
        int[][] toldAndMade = {{Integer.MIN_VALUE, 1}, {-1, 1}, {0, 1}, {1, 1}, {2, 2}, {39, 39}, {40, 40}, {41, 40},
            {Integer.MAX_VALUE, 40}};
        for (int[] row : toldAndMade) {
            RegionShares x = new RegionShares(row[0]);
            due(row[0] + " told: run(1, 0)", x.run(1, 0L), row[1]);
            due(row[0] + " told: batch of the last", x.batch(row[1] - 1), 0);
            CHECK.refused(row[0] + " told: batch behind the last", INDEX, () -> x.batch(row[1]));
        }
    }

    private static void value() {
        CHECK.about("promise 2");
        RegionShares x = new RegionShares(2);
        due("value(1, 1.0)", x.value(1, 1.0), true);
        due("value(1, 1.0) again", x.value(1, 1.0), false);
        due("value(1, 1.124)", x.value(1, 1.124), false);
        due("value(1, 1.125)", x.value(1, 1.125), true);
        due("plain()", x.plain(), 1.125 * 1.125 + 1.125 * 0.5 + 1.0);
        due("value(1, -1.2)", x.value(1, -1.2), true);
        due("value(1, -1.125)", x.value(1, -1.125), false);
        due("plain()", x.plain(), 1.125 * 1.125 - 1.125 * 0.5 + 1.0);
        due("value(0, 0.1249)", x.value(0, 0.1249), false);
        due("value(0, -0.1249)", x.value(0, -0.1249), false);
        due("value(0, -0.0)", x.value(0, -0.0), false);
        due("value(0, Double.MIN_VALUE)", x.value(0, Double.MIN_VALUE), false);
        due("value(0, 1000.0)", x.value(0, 1000.0), true);
        due("value(0, -1000.0)", x.value(0, -1000.0), true);
        due("value(0, -999.99)", x.value(0, -999.99), true);
        due("value(0, -999.875)", x.value(0, -999.875), false);
    }

    private static void valueRefused() {
        CHECK.about("promise 2, wrong inputs");
        RegionShares x = new RegionShares(2);
        x.value(1, 5.0);
        double[] wrong = {1000.0000001, -1000.0000001, 1001.0, -1001.0, 1e300, -1e300, Double.NaN,
            Double.POSITIVE_INFINITY, Double.NEGATIVE_INFINITY};
        for (double v : wrong) {
            CHECK.refused("value(1, " + v + ")", ARGUMENT, () -> x.value(1, v));
            CHECK.refused("value(2, " + v + ")", INDEX, () -> x.value(2, v));
        }
        for (int share : new int[] {-1, 2, Integer.MIN_VALUE, Integer.MAX_VALUE}) {
            CHECK.refused("value(" + share + ", 1.0)", INDEX, () -> x.value(share, 1.0));
        }
        due("value(1, 5.0)", x.value(1, 5.0), false);
    }

    private static void touches() {
        CHECK.about("promise 3");
        RegionShares x = new RegionShares(2);
        for (int region : new int[] {0, 15, 30}) {
            due("touches(0, " + region + ")", x.touches(0, region), true);
            due("touches(0, " + region + ") again", x.touches(0, region), false);
            due("touches(1, " + region + ")", x.touches(1, region), true);
        }
        for (int region : new int[] {-1, 31, 32, Integer.MIN_VALUE, Integer.MAX_VALUE}) {
            CHECK.refused("touches(0, " + region + ")", INDEX, () -> x.touches(0, region));
        }
        for (int share : new int[] {-1, 2, Integer.MIN_VALUE, Integer.MAX_VALUE}) {
            CHECK.refused("touches(" + share + ", 0)", INDEX, () -> x.touches(share, 0));
        }
    }

    private static void batches() {
        CHECK.about("promise 4");
        RegionShares x = new RegionShares(40);
        due("batches()", x.batches(), 1);
        x.touches(7, 30);
        due("batches()", x.batches(), 1);
        for (int share = 0; share < 40; share++) {
            x.touches(share, 30);
            due("batches() behind touches(" + share + ", 30)", x.batches(), share < 7 ? share + 2 : share + 1);
        }
    }

    private static void batch() {
        CHECK.about("promise 5");
        RegionShares x = new RegionShares(5);
        x.touches(0, 1);
        x.touches(1, 1);
        x.touches(1, 2);
        x.touches(2, 2);
        x.touches(3, 1);
        x.touches(3, 2);
        dueBatches(x, 0, 1, 0, 2, 0);
        x.touches(4, 2);
        dueBatches(x, 0, 1, 0, 2, 3);
        x.touches(2, 1);
        dueBatches(x, 0, 1, 2, 3, 0);
        for (int share : new int[] {-1, 5, Integer.MIN_VALUE, Integer.MAX_VALUE}) {
            CHECK.refused("batch(" + share + ")", INDEX, () -> x.batch(share));
        }
    }

    private static void dueBatches(RegionShares x, int... want) {
        for (int share = 0; share < want.length; share++) {
            due("batch(" + share + ")", x.batch(share), want[share]);
        }
    }

    private static void run() {
        CHECK.about("promise 6");
        RegionShares x = new RegionShares(6);
        due("run(1, 0)", x.run(1, 0L), 6);
        due("run(16, -1)", x.run(16, -1L), 6);
        due("run(16, MIN)", x.run(16, Long.MIN_VALUE), 6);
        x.touches(0, 0);
        x.touches(5, 0);
        x.stop(5);
        due("run(2, 1)", x.run(2, 1L), 5);
        x.stop(0);
        due("run(2, 1)", x.run(2, 1L), 0);
        for (int workers : new int[] {0, -1, 17, Integer.MIN_VALUE, Integer.MAX_VALUE}) {
            CHECK.refused("run(" + workers + ", 1)", ARGUMENT, () -> x.run(workers, 1L));
        }
        due("live()", x.live(), 2);
    }

    /** Which worker is drawn shows by who breaks: with one that breaks everywhere, at its first draw. */
    private static void runDraws() {
        CHECK.about("promise 6, draws");
        for (long seed = -30; seed < 30; seed++) {
            long s = seed * 0x9E3779B97F4A7C15L;
            int[] live = {0, 1, 2};
            int count = 3;
            int[] want = new int[4];
            for (int share = 0; share < 4; share++) {
                boolean again = true;
                while (again) {
                    s = s * 6364136223846793005L + 1442695040888963407L;
                    int number = (int) ((s >>> 33) % count);
                    want[share]++;
                    again = live[number] == 1;
                    if (again) {
                        live[1] = live[2];
                        count = 2;
                    }
                }
            }
            RegionShares x = new RegionShares(4);
            for (int share = 0; share < 4; share++) {
                x.failAt(1, share);
            }
            due("run(3, " + seed + ")", x.run(3, seed * 0x9E3779B97F4A7C15L), 4);
            for (int share = 0; share < 4; share++) {
                due("times(" + share + "), seed " + seed, x.times(share), want[share]);
            }
            due("broken(), seed " + seed, x.broken(), 3 - count);
        }
    }

    private static void runRefused() {
        CHECK.about("promise 6, refused");
        RegionShares x = new RegionShares(3);
        due("run(16, 4)", x.run(16, 4L), 3);
        for (int worker = 0; worker < 16; worker++) {
            x.failAt(worker, 2);
        }
        x.value(0, 7.0);
        due("run(16, 4)", x.run(16, 4L), RegionShares.NONE);
        due("joined()", x.joined(), 3.0);
        due("times(2)", x.times(2), 16);
        due("work()", x.work(), 21L);
        x.touches(0, 0);
        x.touches(2, 0);
        x.stop(2);
        due("run(16, 4)", x.run(16, 4L), 2);
        due("joined()", x.joined(), 53.5);
    }

    private static void joined() {
        CHECK.about("promise 7");
        RegionShares x = new RegionShares(3);
        x.value(0, 2.0);
        due("joined()", x.joined(), 0.0);
        x.run(1, 1L);
        due("joined()", x.joined(), 8.0);
        x.value(0, 4.0);
        due("joined() behind value", x.joined(), 8.0);
        x.failAt(0, 1);
        x.run(1, 1L);
        due("joined() behind a refused run", x.joined(), 8.0);
        x.touches(1, 0);
        due("joined() behind touches", x.joined(), 8.0);
        x.run(2, 1L);
        due("joined()", x.joined(), 21.0);
        x.stop(1);
        x.run(2, 1L);
        due("joined() of an empty run", x.joined(), 0.0);
    }

    private static void plain() {
        CHECK.about("promise 8");
        RegionShares x = new RegionShares(3);
        x.value(2, -4.0);
        due("plain()", x.plain(), 17.0);
        x.stop(0);
        x.touches(0, 0);
        x.touches(1, 0);
        x.failAt(0, 0);
        due("plain() with a stop, batches and breaks", x.plain(), 17.0);
        x.run(1, 1L);
        due("plain() behind a run", x.plain(), 17.0);
        x.value(2, 0.0);
        due("plain() behind value", x.plain(), 3.0);
    }

    private static void failAt() {
        CHECK.about("promise 9");
        RegionShares x = new RegionShares(2);
        for (int worker : new int[] {0, 15}) {
            due("failAt(" + worker + ", 1)", x.failAt(worker, 1), true);
            due("failAt(" + worker + ", 1) again", x.failAt(worker, 1), false);
            due("failAt(" + worker + ", 0)", x.failAt(worker, 0), true);
        }
        due("run(1, 1)", x.run(1, 1L), RegionShares.NONE);
        due("run(1, 1) again", x.run(1, 1L), RegionShares.NONE);
        for (int worker : new int[] {-1, 16, 32, Integer.MIN_VALUE, Integer.MAX_VALUE}) {
            CHECK.refused("failAt(" + worker + ", 0)", INDEX, () -> x.failAt(worker, 0));
        }
        for (int share : new int[] {-1, 2, Integer.MIN_VALUE, Integer.MAX_VALUE}) {
            CHECK.refused("failAt(0, " + share + ")", INDEX, () -> x.failAt(0, share));
        }
    }

    private static void times() {
        CHECK.about("promise 10");
        RegionShares x = new RegionShares(3);
        x.run(2, 1L);
        x.run(2, 2L);
        due("times(0)", x.times(0), 1);
        x.failAt(0, 1);
        x.failAt(1, 1);
        x.run(2, 1L);
        due("times(0), refused", x.times(0), 1);
        due("times(1), refused", x.times(1), 2);
        due("times(2), refused", x.times(2), 0);
        CHECK.refused("run(0, 1)", ARGUMENT, () -> x.run(0, 1L));
        due("times(1) behind a wrong run", x.times(1), 2);
        x.stop(0);
        x.run(2, 1L);
        due("times(1), stopped", x.times(1), 0);
        for (int share : new int[] {-1, 3, Integer.MIN_VALUE, Integer.MAX_VALUE}) {
            CHECK.refused("times(" + share + ")", INDEX, () -> x.times(share));
        }
    }

    private static void act() {
        CHECK.about("promise 11");
        RegionShares x = new RegionShares(1);
        int[][] rankAndAhead = {{4, 0}, {4, 1}, {0, 2}, {9, 0}, {5, 1}, {9, 1}, {4, 5}, {0, 7}};
        for (int[] row : rankAndAhead) {
            due("act(" + row[0] + ")", x.act(row[0]), row[1]);
        }
        for (int wait = rankAndAhead.length; wait < 20; wait++) {
            due("act(0) as the " + (wait + 1) + "th", x.act(0), wait);
        }
        due("act(9) as the 21st", x.act(9), RegionShares.NONE);
        due("act(0) as the 21st", x.act(0), RegionShares.NONE);
        for (int rank : new int[] {-1, 10, Integer.MIN_VALUE, Integer.MAX_VALUE}) {
            CHECK.refused("act(" + rank + ") when 20 wait", ARGUMENT, () -> x.act(rank));
            CHECK.refused("act(" + rank + ")", ARGUMENT, () -> new RegionShares(1).act(rank));
        }
        x.run(1, 1L);
        due("act(9) when one of 9 was let in", x.act(9), 1);
        due("act(9) when 20 wait again", x.act(9), RegionShares.NONE);
    }

    private static void actsLetIn() {
        CHECK.about("promise 11, acts let in");
        RegionShares x = new RegionShares(3);
        x.touches(0, 0);
        x.touches(1, 0);
        x.act(1);
        x.act(8);
        x.act(3);
        x.failAt(0, 1);
        due("run(1, 1) refused in its second batch", x.run(1, 1L), RegionShares.NONE);
        due("act(0)", x.act(0), 3);
        x.stop(1);
        due("run(1, 1) stopped ahead of its second batch", x.run(1, 1L), 2);
        due("act(0)", x.act(0), 3);
        x.stop(0);
        due("run(1, 1) stopped ahead of its first batch", x.run(1, 1L), 0);
        due("act(0)", x.act(0), 4);
        x.stop(0);
        x.stop(1);
        due("run(2, 1): worker 1 does share 1, whoever is drawn first", x.run(2, 1L), 3);
        due("act(0): both batches let one in", x.act(0), 3);
        due("act(1): none of rank 1 or above waits", x.act(1), 0);
    }

    private static void work() {
        CHECK.about("promise 12");
        RegionShares x = new RegionShares(2);
        x.act(1);
        due("work() with a waiting act", x.work(), 0L);
        x.run(1, 1L);
        due("work()", x.work(), 3L);
        x.run(1, 1L);
        due("work() without a waiting act", x.work(), 5L);
        x.act(1);
        x.failAt(0, 0);
        x.run(1, 1L);
        due("work() behind a refused run", x.work(), 6L);
        x.stop(1);
        x.run(1, 1L);
        due("work() behind a stopped run", x.work(), 6L);
    }

    private static void stop() {
        CHECK.about("promise 13");
        RegionShares x = new RegionShares(4);
        due("stop(3)", x.stop(3), true);
        due("stop(3)", x.stop(3), false);
        due("stop(3)", x.stop(3), true);
        due("run(1, 1): the batch of a stopped share", x.run(1, 1L), 0);
        x.touches(1, 5);
        x.touches(3, 5);
        x.touches(2, 6);
        x.touches(3, 6);
        due("run(1, 1): the batches ahead", x.run(1, 1L), 3);
        x.touches(2, 5);
        due("run(1, 1): share 3 is two batches behind", x.run(1, 1L), 3);
        x.stop(2);
        due("run(1, 1): two are stopped", x.run(1, 1L), 2);
        x.stop(2);
        x.stop(3);
        due("run(1, 1): none is stopped", x.run(1, 1L), 4);
        for (int share : new int[] {-1, 4, Integer.MIN_VALUE, Integer.MAX_VALUE}) {
            CHECK.refused("stop(" + share + ")", INDEX, () -> x.stop(share));
        }
    }

    private static void brokenAndLive() {
        CHECK.about("promises 14 and 15");
        RegionShares x = new RegionShares(1);
        x.run(16, 1L);
        due("broken()", x.broken(), 0);
        due("live()", x.live(), 16);
        for (int worker = 0; worker < 5; worker++) {
            x.failAt(worker, 0);
        }
        due("run(5, 3)", x.run(5, 3L), RegionShares.NONE);
        due("broken()", x.broken(), 5);
        due("live()", x.live(), 0);
        CHECK.refused("run(17, 3)", ARGUMENT, () -> x.run(17, 3L));
        due("broken() behind a wrong run", x.broken(), 5);
        due("run(6, 3)", x.run(6, 3L), 1);
        due("broken()", x.broken(), x.times(0) - 1);
        due("live()", x.live(), 6 - x.broken());
        x.stop(0);
        x.run(7, 3L);
        due("broken() of an empty run", x.broken(), 0);
        due("live() of an empty run", x.live(), 7);
    }
}
