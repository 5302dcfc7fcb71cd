import java.util.ArrayList;
import java.util.Arrays;
import java.util.List;
import java.util.Random;
import java.util.TreeSet;

/** Long mixed runs of calls, each answer beside that of a slow model written after the document's terms. */
final class ModelTest {
    private static final int OBJECTS = 1000;
    private static final int CALLS = 512;

    /** One share, with all that the document says of it. */
    private static final class Share {
        double value;
        double result;
        boolean hasResult;
        boolean stopped;
        int begun;
        final TreeSet<Integer> regions = new TreeSet<>();
        final TreeSet<Integer> breakers = new TreeSet<>();
    }

    private final List<Share> all = new ArrayList<>();
    private final List<Integer> acts = new ArrayList<>();
    private List<Integer> live = new ArrayList<>();
    private int workers;
    private long work;
    private long s;

    private ModelTest(int shares) {
        int count = shares < 1 ? 1 : shares > 40 ? 40 : shares;
        for (int i = 0; i < count; i++) {
            all.add(new Share());
        }
    }

    private Share share(int share) {
        if (share < 0 || share >= all.size()) {
            throw new IndexOutOfBoundsException();
        }
        return all.get(share);
    }

    private boolean value(int share, double v) {
        Share told = share(share);
        if (Double.isNaN(v) || Math.abs(v) > 1000.0) {
            throw new IllegalArgumentException();
        }
        double scaled = v * 8.0;
        double cut = (scaled < 0 ? Math.ceil(scaled) : Math.floor(scaled)) / 8.0;
        boolean another = told.value != cut;
        told.value = cut;
        return another;
    }

    private boolean touches(int share, int region) {
        Share told = share(share);
        if (region < 0 || region > 30) {
            throw new IndexOutOfBoundsException();
        }
        return told.regions.add(region);
    }

    private List<List<Integer>> sorted() {
        List<List<Integer>> batches = new ArrayList<>();
        for (int i = 0; i < all.size(); i++) {
            int b = 0;
            while (b < batches.size() && meets(batches.get(b), all.get(i))) {
                b++;
            }
            if (b == batches.size()) {
                batches.add(new ArrayList<>());
            }
            batches.get(b).add(i);
        }
        return batches;
    }

    private boolean meets(List<Integer> members, Share share) {
        for (int member : members) {
            for (int region : all.get(member).regions) {
                if (share.regions.contains(region)) {
                    return true;
                }
            }
        }
        return false;
    }

    private int batch(int share) {
        share(share);
        List<List<Integer>> batches = sorted();
        for (int b = 0; b < batches.size(); b++) {
            if (batches.get(b).contains(share)) {
                return b;
            }
        }
        return -2;
    }

    private int run(int told, long seed) {
        if (told < 1 || told > 16) {
            throw new IllegalArgumentException();
        }
        workers = told;
        s = seed;
        live = new ArrayList<>();
        for (int w = 0; w < told; w++) {
            live.add(w);
        }
        for (Share share : all) {
            share.begun = 0;
        }
        List<Integer> done = new ArrayList<>();
        int batchesDone = 0;
        for (List<Integer> batch : sorted()) {
            if (batch.stream().anyMatch(i -> all.get(i).stopped)) {
                break;
            }
            for (int i : batch) {
                if (!begin(i)) {
                    return -1;
                }
                done.add(i);
            }
            batchesDone++;
        }
        keep(done);
        letIn(batchesDone);
        return done.size();
    }

    private boolean begin(int i) {
        Share share = all.get(i);
        while (!live.isEmpty()) {
            s = s * 6364136223846793005L + 1442695040888963407L;
            int number = (int) Long.remainderUnsigned(s >>> 33, live.size());
            share.begun++;
            work++;
            if (!share.breakers.contains(live.get(number))) {
                return true;
            }
            live.remove(number);
        }
        return false;
    }

    private void keep(List<Integer> done) {
        for (int i = 0; i < all.size(); i++) {
            all.get(i).hasResult = done.contains(i);
            all.get(i).result = resultNow(i);
        }
    }

    private double resultNow(int i) {
        double v = all.get(i).value;
        return v * v + v * 0.5 + (double) i;
    }

    private void letIn(int batchesDone) {
        for (int b = 0; b < batchesDone && !acts.isEmpty(); b++) {
            int next = 0;
            for (int a = 1; a < acts.size(); a++) {
                if (acts.get(a) > acts.get(next)) {
                    next = a;
                }
            }
            acts.remove(next);
            work++;
        }
    }

    private double joined() {
        double sum = 0.0;
        for (Share share : all) {
            if (share.hasResult) {
                sum += share.result;
            }
        }
        return sum;
    }

    private double plain() {
        double sum = 0.0;
        for (int i = 0; i < all.size(); i++) {
            sum += resultNow(i);
        }
        return sum;
    }

    private boolean failAt(int worker, int share) {
        if (worker < 0 || worker > 15) {
            throw new IndexOutOfBoundsException();
        }
        return share(share).breakers.add(worker);
    }

    private int act(int rank) {
        if (rank < 0 || rank > 9) {
            throw new IllegalArgumentException();
        }
        if (acts.size() == 20) {
            return -1;
        }
        int ahead = (int) acts.stream().filter(other -> other >= rank).count();
        acts.add(rank);
        return ahead;
    }

    private boolean stop(int share) {
        Share told = share(share);
        told.stopped = !told.stopped;
        return told.stopped;
    }

    public static void main(String[] args) {
        Check check = new Check();
        int[] reached = new int[4];
        for (int object = 0; object < OBJECTS; object++) {
            Random random = new Random(object);
            int shares = random.nextInt(8) == 0 ? random.nextInt(60) - 10 : 1 + random.nextInt(40);
            check.about("object " + object + " of " + shares);
            oneObject(check, random, shares, reached);
        }
        check.about("the runs of calls themselves");
        check.due("each kind of run came often " + Arrays.toString(reached),
                Arrays.stream(reached).allMatch(n -> n > 1000), true);
        check.end();
    }

    private static void oneObject(Check check, Random random, int shares, int[] reached) {
        RegionShares x = new RegionShares(shares);
        ModelTest model = new ModelTest(shares);
        int touchesPart = random.nextInt(4);
        int breaksPart = random.nextInt(4);
        int stopsPart = random.nextInt(3);
        for (int call = 0; call < CALLS; call++) {
            int kind = random.nextInt(11 + touchesPart + breaksPart + stopsPart);
            if (kind < 3) {
                int workers = random.nextInt(random.nextBoolean() ? 4 : 19);
                long seed = random.nextLong();
                same(check, "run(" + workers + ", " + seed + ")", () -> reach(reached, x.run(workers, seed), model),
                        () -> model.run(workers, seed));
            } else {
                otherCall(check, random, x, model, kind < 11 ? kind : kind - 11 < touchesPart ? 4
                        : kind - 11 < touchesPart + breaksPart ? 5 : 6);
            }
            compareStates(check, random, x, model);
        }
    }

    /** Counts which kind a run was of: refused, empty, ended by a stop, whole. */
    private static int reach(int[] reached, int count, ModelTest model) {
        reached[count < 0 ? 0 : count == 0 ? 1 : count < model.all.size() ? 2 : 3]++;
        return count;
    }

    private static void otherCall(Check check, Random random, RegionShares x, ModelTest model, int kind) {
        int share = random.nextInt(model.all.size() + (random.nextInt(20) == 0 ? 2 : 0)) - (random.nextInt(40) == 0 ? 1 : 0);
        int small = random.nextInt(33) - 1;
        double v = random.nextInt(10) == 0 ? random.nextDouble() * 2200.0 - 1100.0 : random.nextInt(100) / 10.0 - 5.0;
        if (kind == 4) {
            same(check, "touches(" + share + ", " + small + ")", () -> x.touches(share, small), () -> model.touches(share, small));
        } else if (kind == 5) {
            int worker = small / 2;
            same(check, "failAt(" + worker + ", " + share + ")", () -> x.failAt(worker, share), () -> model.failAt(worker, share));
        } else if (kind == 6) {
            same(check, "stop(" + share + ")", () -> x.stop(share), () -> model.stop(share));
        } else if (kind < 9) {
            int rank = small / 3;
            same(check, "act(" + rank + ")", () -> x.act(rank), () -> model.act(rank));
        } else {
            same(check, "value(" + share + ", " + v + ")", () -> x.value(share, v), () -> model.value(share, v));
        }
    }

    private static void same(Check check, String call, Check.Call made, Check.Call due) {
        check.due(call, Check.answer(made), Check.answer(due));
    }

    private static void compareStates(Check check, Random random, RegionShares x, ModelTest model) {
        int share = random.nextInt(model.all.size() + 1) - (random.nextInt(40) == 0 ? 1 : 0);
        same(check, "batch(" + share + ")", () -> x.batch(share), () -> model.batch(share));
        same(check, "times(" + share + ")", () -> x.times(share), () -> model.share(share).begun);
        check.due("batches()", x.batches(), model.sorted().size());
        check.due("joined()", x.joined(), model.joined());
        check.due("plain()", x.plain(), model.plain());
        check.due("work()", x.work(), model.work);
        check.due("broken()", x.broken(), model.workers - model.live.size());
        check.due("live()", x.live(), model.live.size());
    }
}
