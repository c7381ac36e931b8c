import java.util.ArrayList;
import java.util.Arrays;
import java.util.List;
import java.util.Random;

/** What the document says the numbers are for: in no stretch of ticks do sources take more than their share. */
public final class WithinBoundsTest {
    private static final int RUNS = 400;
    private static final int TELLING_CALLS = 60;
    private static final int CALLS = 495;
    private static final int LONGEST = 200;

    /** A run of ticks, all of which are kept, with sources and base tasks that come and events that come. */
    private static final class Run {
        final BudgetKernel kernel = new BudgetKernel();
        final List<int[]> sources = new ArrayList<>();
        final List<Integer> tasks = new ArrayList<>();
        final List<Integer> ran = new ArrayList<>();
        final int[] nextEvent = new int[6];
        final Random random;
        final boolean keepDistances;
        final int greatestPeriod;
        final int eventsRare;
        int calls = 0;

        Run(int seed, boolean keepDistances) {
            random = new Random(seed);
            this.keepDistances = keepDistances;
            greatestPeriod = new int[] {5, 20, 60, 200, 500}[random.nextInt(5)];
            eventsRare = new int[] {1, 3, 20}[random.nextInt(3)];
        }

        void go() {
            while (calls < CALLS) {
                if (calls < TELLING_CALLS && random.nextInt(ran.isEmpty() ? 2 : 10) == 0) {
                    tell();
                }
                events();
                calls++;
                ran.add(kernel.tick());
            }
        }

        private void tell() {
            calls++;
            if (random.nextBoolean()) {
                tellSource();
            } else {
                tellTask();
            }
        }

        private void tellSource() {
            int period = 1 + random.nextInt(greatestPeriod);
            int[] source = {random.nextInt(6), random.nextInt(4), 1 + random.nextInt(6),
                1 + random.nextInt(2 * greatestPeriod), 1 + random.nextInt(6), period, random.nextInt(32)};
            try {
                kernel.source(source[0], source[1], source[2], source[3], source[4], source[5], source[6]);
                sources.add(source);
            } catch (IllegalStateException e) {
                // Not told, so it takes nothing.
            }
        }

        private void tellTask() {
            int task = random.nextInt(6);
            int period = 1 + random.nextInt(3 * greatestPeriod);
            int cost = 1 + random.nextInt(1 + period / 5);
            try {
                if (kernel.base(task, period, cost, random.nextInt(32))) {
                    tasks.add(task);
                }
            } catch (IllegalStateException e) {
                // Not told, so it can't miss.
            }
        }

        private void events() {
            for (int[] source : sources) {
                boolean may = !keepDistances || ran.size() >= nextEvent[source[0]];
                if (may && random.nextInt(eventsRare) == 0) {
                    calls++;
                    kernel.event(source[0]);
                    nextEvent[source[0]] = ran.size() + source[3];
                }
            }
        }

        /** In the stretch of so many ticks that has the most of them: how many answered what counts. */
        int mostIn(int span, boolean[] counts) {
            int within = 0;
            int most = 0;
            for (int t = 0; t < ran.size(); t++) {
                within += counts[ran.get(t)] ? 1 : 0;
                within -= t >= span && counts[ran.get(t - span)] ? 1 : 0;
                most = Math.max(most, within);
            }
            return most;
        }
    }

    public static void main(String[] args) {
        topAtOnce();
        withinBudget();
        withinBudgetInStorms();
        stormsAreMasked();
        sourcesTakeAtMost();
        enoughIsLeft();
        Check.end();
    }

    private static void topAtOnce() {
        Check.sentence("each source has a short top half, charged at once");
        BudgetKernel k = new BudgetKernel();
        k.source(0, 2, 1, 100, 1, 100, 0);
        k.source(1, 0, 9, 100, 9, 100, 31);
        k.event(1);
        Check.ticks("before the event", k, 21, 21);
        k.event(0);
        Check.ticks("from the event on, though the other one is higher and the budget is not touched", k, 10, 10);
        Check.due("units left", k.about(0, 6), 1);
        Check.ticks("then the other one", k, 21);
    }

    private static void withinBudget() {
        Check.sentence("a handler that runs within a budget that is given back piece by piece,"
                + " one period after it was ready to be spent");
        BudgetKernel k = new BudgetKernel();
        k.source(0, 0, 30, 1, 2, 10, 0);
        k.source(1, 0, 8, 1, 8, 500, 1);
        k.event(0);
        k.event(1);
        Check.sameTicks("ready, but another one is higher", k, 8, 21);
        Check.ticks("as late as can be, and the next budget at once", k, 20, 20, 20, 20);
        Check.due("twice the budget in four ticks", k.used(0, false, 8, 12), (1 + 1) * 2);
        Check.sameTicks("no more for the rest of the period", k, 8, 0);
        Check.ticks("the third one", k, 20, 20, 0);
        Check.due("thrice in fourteen", k.used(0, false, 8, 22), (2 + 1) * 2);
    }

    private static void withinBudgetInStorms() {
        for (int seed = 0; seed < RUNS; seed++) {
            Run run = new Run(seed, false);
            run.go();
            for (int[] source : run.sources) {
                for (int span = 1; span <= LONGEST; span++) {
                    atMost("seed " + seed + ", handler of " + source[0], span,
                            run.mostIn(span, answers(20 + source[0], 20 + source[0])), ofHandler(source, span));
                }
            }
        }
    }

    private static void stormsAreMasked() {
        Check.sentence("sources that storm are masked");
        BudgetKernel k = new BudgetKernel();
        k.source(0, 1, 30, 100, 1, 500, 0);
        k.source(1, 1, 1, 100, 1, 500, 1);
        Check.events(k, 0, 100);
        k.event(1);
        Check.due("the one that storms", k.about(0, 4), 1);
        Check.due("not the other one", k.about(1, 4), 0);
        Check.due("its top halves take so much", k.ticks(50), 25 + 1 + 1 + 1);
        Check.due("and no more", k.used(0, true, 0, 50), 25 + 1);
    }

    private static void sourcesTakeAtMost() {
        Check.sentence("what sources take in R ticks is at most SOURCES(R)");
        for (int seed = 0; seed < RUNS; seed++) {
            Run run = new Run(seed, true);
            run.go();
            for (int span = 1; span <= LONGEST; span++) {
                int sum = 0;
                for (int[] source : run.sources) {
                    sum += ofHandler(source, span) + (ceil(span, source[3]) + 1) * source[1];
                }
                atMost("seed " + seed, span, run.mostIn(span, answers(10, 25)), sum);
                if (span % 50 == 0 && seed % 20 == 0) {
                    Check.due("seed " + seed + ", floor " + span, run.kernel.floor(span), Math.max(0, span - sum));
                }
            }
        }
    }

    private static void enoughIsLeft() {
        Check.sentence("base tasks are admitted only if what is left is enough");
        int admitted = 0;
        for (int seed = 0; seed < RUNS; seed++) {
            Run run = new Run(seed, true);
            run.go();
            for (int task : run.tasks) {
                admitted += run.sources.isEmpty() ? 0 : 1;
                Check.due("seed " + seed + ", missed of " + task, run.kernel.task(task, 1), 0);
            }
        }
        Check.due("some were admitted beside sources", admitted > RUNS / 4, true);
    }

    /** Those of a tick's answers that count. */
    private static boolean[] answers(int from, int to) {
        boolean[] counts = new boolean[36];
        Arrays.fill(counts, from, to + 1, true);
        return counts;
    }

    private static void atMost(String name, int span, int got, int greatest) {
        Check.due(name + ": " + got + " of " + span + " ticks, at most " + greatest, got <= greatest, true);
    }

    private static int ofHandler(int[] source, int span) {
        return (ceil(span, source[5]) + 1) * source[4];
    }

    private static int ceil(int a, int b) {
        return a / b + (a % b == 0 ? 0 : 1);
    }
}
