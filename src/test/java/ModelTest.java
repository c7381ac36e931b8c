import java.util.Random;

/** All promises together: runs of calls, drawn from fixed seeds, on the program and on the plain model. */
public final class ModelTest {
    private static final int RUNS = 1500;
    private static final int CALLS = 512;

    private final Random random;
    private final BudgetKernel kernel = new BudgetKernel();
    private final PlainModel model = new PlainModel();
    private final int seed;
    /** How crowded the run is: small periods and many events, or great ones and few. */
    private final int greatestPeriod;
    private final int greatestTicks;
    private final int eventShare;

    private ModelTest(int seed) {
        this.seed = seed;
        random = new Random(seed);
        greatestPeriod = pick(3, 12, 40, 120, 500);
        greatestTicks = pick(2, 5, 20, 100, 500);
        eventShare = pick(20, 40, 60, 75);
    }

    public static void main(String[] args) {
        for (int seed = 0; seed < RUNS; seed++) {
            new ModelTest(seed).run();
        }
        Check.due("rare states that the model counts", PlainModel.REACHED.size(), 11);
        PlainModel.REACHED.forEach((state, times) -> Check.due("reached: " + state, times > 0, true));
        Check.end();
    }

    private int pick(int... of) {
        return of[random.nextInt(of.length)];
    }

    private int between(int least, int greatest) {
        return least + random.nextInt(greatest - least + 1);
    }

    /** Mostly within the bounds, now and then one beside them. */
    private int near(int least, int greatest) {
        if (random.nextInt(150) == 0) {
            return pick(least - 1, greatest + 1, Integer.MIN_VALUE, Integer.MAX_VALUE);
        }
        return random.nextInt(12) == 0 ? pick(least, greatest) : between(least, greatest);
    }

    private void run() {
        int sources = between(1, 6);
        for (int i = 0; i < sources; i++) {
            tellSource();
        }
        for (int i = sources; i < CALLS; i++) {
            if (random.nextInt(100) < eventShare) {
                int source = near(0, 5);
                same("event " + source, Check.answer(() -> kernel.event(source)), Check.answer(() -> model.event(source)));
            } else {
                otherCall(random.nextInt(40));
            }
        }
        for (int i = 0; i < 6; i++) {
            askAll(i);
        }
    }

    private void otherCall(int kind) {
        if (kind < 12) {
            same("tick", kernel.tick(), model.tick());
        } else if (kind < 22) {
            int n = near(0, greatestTicks);
            same("ticks " + n, Check.answer(() -> kernel.ticks(n)), Check.answer(() -> model.ticks(n)));
        } else if (kind < 32) {
            int source = near(0, 5);
            int what = near(0, 12);
            same("about " + source + " " + what, Check.answer(() -> kernel.about(source, what)),
                    Check.answer(() -> model.about(source, what)));
        } else if (kind < 34) {
            askUsed();
        } else if (kind == 34) {
            tellSource();
        } else if (kind < 37) {
            tellTask();
        } else if (kind == 37) {
            int span = near(0, pick(10, 1000, 100000));
            same("floor " + span, Check.answer(() -> kernel.floor(span)), Check.answer(() -> model.floor(span)));
        } else if (kind == 38) {
            int source = near(0, 5);
            same("bound " + source, Check.answer(() -> kernel.bound(source)), Check.answer(() -> model.bound(source)));
        } else {
            int task = near(0, 5);
            int what = near(0, 3);
            same("task " + task + " " + what, Check.answer(() -> kernel.task(task, what)),
                    Check.answer(() -> model.task(task, what)));
        }
    }

    private void tellSource() {
        int source = near(0, 5);
        int top = near(0, pick(0, 1, 3, 3));
        int cost = near(1, pick(1, 3, 30));
        int period = near(1, greatestPeriod);
        int distance = near(1, pick(20, 2000));
        int budget = near(1, pick(2, 8, 30));
        int priority = near(0, 31);
        same("source", Check.answer(() -> {
            kernel.source(source, top, cost, distance, budget, period, priority);
            return "void";
        }), Check.answer(() -> {
            model.source(source, top, cost, distance, budget, period, priority);
            return "void";
        }));
    }

    private void tellTask() {
        int task = near(0, 5);
        int period = near(1, pick(50, 500, 2000));
        int cost = near(1, pick(3, 20, 500));
        int priority = near(0, 31);
        same("base " + task, Check.answer(() -> kernel.base(task, period, cost, priority)),
                Check.answer(() -> model.base(task, period, cost, priority)));
    }

    private void askUsed() {
        int source = near(0, 5);
        boolean tops = random.nextBoolean();
        int time = model.time();
        int from = near(Math.max(0, time - 1000), time);
        int to = near(Math.max(0, Math.min(from, time)), time);
        same("used " + source + " " + tops + " " + from + " " + to, Check.answer(() -> kernel.used(source, tops, from, to)),
                Check.answer(() -> model.used(source, tops, from, to)));
    }

    private void askAll(int number) {
        for (int what = 0; what <= 12; what++) {
            int of = what;
            same("at the end, about " + number + " " + of, Check.answer(() -> kernel.about(number, of)),
                    Check.answer(() -> model.about(number, of)));
        }
        for (int what = 0; what <= 3; what++) {
            int of = what;
            same("at the end, task " + number + " " + of, Check.answer(() -> kernel.task(number, of)),
                    Check.answer(() -> model.task(number, of)));
        }
        same("at the end, time", kernel.time(), model.time());
    }

    private void same(String call, Object got, Object want) {
        Check.due("seed " + seed + ", time " + model.time() + ": " + call, String.valueOf(got), String.valueOf(want));
    }
}
