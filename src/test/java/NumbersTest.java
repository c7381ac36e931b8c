import java.util.NoSuchElementException;

/** The terms' numbers: the least and the greatest of each holds and has its effect, the next one is refused. */
public final class NumbersTest {
    private static final Class<IllegalArgumentException> ARGUMENT = IllegalArgumentException.class;
    private static final Class<NoSuchElementException> NO_SUCH = NoSuchElementException.class;
    private static final int LOW = Integer.MIN_VALUE;
    private static final int HIGH = Integer.MAX_VALUE;

    public static void main(String[] args) {
        timeAndTicks();
        sources();
        baseTasks();
        top();
        cost();
        distance();
        budget();
        period();
        priority();
        priorityIsItsOwn();
        Check.end();
    }

    private static void timeAndTicks() {
        Check.sentence("TIME is a number of ticks, 0 at first; tick t is the one from time t to t + 1.");
        BudgetKernel k = new BudgetKernel();
        k.source(0, 0, 1, 1, 1, 1, 0);
        Check.due("time at first", k.time(), 0);
        k.event(0);
        Check.due("tick 0", k.tick(), 20);
        Check.due("time behind tick 0", k.time(), 1);
        Check.due("used of tick 0", k.used(0, false, 0, 1), 1);
        Check.due("delay of what was handled in tick 0", k.about(0, 10), 1);
        k.event(0);
        Check.due("since when, between tick 0 and tick 1", k.about(0, 12), 1);
    }

    private static void sources() {
        Check.sentence("SOURCES are 0 .. 5");
        BudgetKernel k = new BudgetKernel();
        for (int source : new int[] {-1, 6, LOW, HIGH}) {
            Check.dueThrow("source " + source, NO_SUCH, () -> k.source(source, 1, 1, 1, 1, 1, 0));
        }
        for (int source = 0; source <= 5; source++) {
            k.source(source, 1, 1, 1, 1, 500, source);
        }
        for (int source = 0; source <= 5; source++) {
            k.event(source);
        }
        Check.ticks("all six", k, 10, 11, 12, 13, 14, 15, 25, 24, 23, 22, 21, 20, 0);
        for (int source : new int[] {-1, 6, LOW, HIGH}) {
            Check.dueThrow("event " + source, NO_SUCH, () -> k.event(source));
            Check.dueThrow("about " + source, NO_SUCH, () -> k.about(source, 0));
            Check.dueThrow("bound " + source, NO_SUCH, () -> k.bound(source));
            Check.dueThrow("used " + source, NO_SUCH, () -> k.used(source, true, 0, 0));
        }
    }

    private static void baseTasks() {
        Check.sentence("BASE TASKS 0 .. 5.");
        BudgetKernel k = new BudgetKernel();
        for (int task : new int[] {-1, 6, LOW, HIGH}) {
            Check.dueThrow("base " + task, NO_SUCH, () -> k.base(task, 100, 1, 0));
        }
        for (int task = 0; task <= 5; task++) {
            Check.due("base " + task, k.base(task, 100, 1, task), true);
        }
        Check.ticks("all six", k, 35, 34, 33, 32, 31, 30, 0);
        for (int task : new int[] {-1, 6, LOW, HIGH}) {
            Check.dueThrow("task " + task, NO_SUCH, () -> k.task(task, 0));
        }
    }

    private static BudgetKernel one(int top, int cost, int distance, int budget, int period) {
        BudgetKernel k = new BudgetKernel();
        k.source(0, top, cost, distance, budget, period, 7);
        return k;
    }

    private static void top() {
        Check.sentence("a TOP (0 .. 3 ticks)");
        for (int top : new int[] {-1, 4, LOW, HIGH}) {
            Check.dueThrow("top " + top, ARGUMENT, () -> one(top, 1, 1, 1, 500));
        }
        BudgetKernel none = one(0, 1, 1, 1, 500);
        none.event(0);
        Check.ticks("top 0", none, 20, 0);
        BudgetKernel most = one(3, 1, 1, 1, 500);
        most.event(0);
        Check.ticks("top 3", most, 10, 10, 10, 20, 0);
    }

    private static void cost() {
        Check.sentence("a COST (1 .. 30 ticks of its handler for each event)");
        for (int cost : new int[] {0, 31, -1, LOW, HIGH}) {
            Check.dueThrow("cost " + cost, ARGUMENT, () -> one(0, cost, 1, 1, 500));
        }
        BudgetKernel least = one(0, 1, 1, 30, 500);
        Check.events(least, 0, 2);
        Check.ticks("cost 1, two events", least, 20, 20, 0);
        BudgetKernel most = one(0, 30, 1, 30, 500);
        most.event(0);
        Check.sameTicks("cost 30", most, 29, 20);
        Check.due("handled at 29", most.about(0, 1), 0);
        Check.due("done at 29", most.about(0, 11), 29);
        Check.ticks("cost 30", most, 20, 0);
        Check.due("handled at 30", most.about(0, 1), 1);
        Check.due("delay", most.about(0, 10), 30);
    }

    private static void distance() {
        Check.sentence("a DISTANCE (1 .. 2000)");
        for (int distance : new int[] {0, 2001, -1, LOW, HIGH}) {
            Check.dueThrow("distance " + distance, ARGUMENT, () -> one(1, 1, distance, 1, 500));
        }
        // Of 100 ticks, 2 * 1 go to the handler, and 101 or 51 to top halves.
        Check.due("distance 1", one(1, 1, 1, 1, 500).floor(100), 0);
        Check.due("distance 2", one(1, 1, 2, 1, 500).floor(100), 47);
        Check.due("distance 2000, as long", one(3, 1, 2000, 1, 500).floor(2000), 2000 - 5 - 6);
        Check.due("distance 2000, one more", one(3, 1, 2000, 1, 500).floor(2001), 2001 - 6 - 9);
    }

    private static void budget() {
        Check.sentence("a BUDGET (1 .. 30)");
        for (int budget : new int[] {0, 31, -1, LOW, HIGH}) {
            Check.dueThrow("budget " + budget, ARGUMENT, () -> one(0, 1, 1, budget, 500));
        }
        BudgetKernel least = one(0, 30, 1, 1, 500);
        Check.due("units of budget 1", least.about(0, 6), 1);
        Check.events(least, 0, 2);
        Check.ticks("budget 1", least, 20, 0);
        BudgetKernel most = one(0, 30, 1, 30, 500);
        Check.due("units of budget 30", most.about(0, 6), 30);
        Check.events(most, 0, 2);
        Check.sameTicks("budget 30", most, 30, 20);
        Check.ticks("budget 30 is spent", most, 0);
    }

    private static void period() {
        Check.sentence("a PERIOD (1 .. 500)");
        for (int period : new int[] {0, 501, -1, LOW, HIGH}) {
            Check.dueThrow("period " + period, ARGUMENT, () -> one(0, 1, 1, 1, period));
        }
        BudgetKernel least = one(0, 1, 1, 1, 1);
        Check.events(least, 0, 3);
        Check.ticks("period 1", least, 20, 20, 20, 0);
        BudgetKernel most = one(0, 1, 1, 1, 500);
        Check.events(most, 0, 2);
        Check.ticks("period 500", most, 20, 0);
        Check.due("till 499", most.ticks(497), 0);
        Check.pieces("at 499", most, 0, 0, 1, 500, 1);
        Check.ticks("tick 499, and what is back at 500", most, 0, 20, 0);
    }

    private static void priority() {
        Check.sentence("and a PRIORITY (0 .. 31, greater is higher, no two alike)");
        for (int priority : new int[] {-1, 32, LOW, HIGH}) {
            Check.dueThrow("priority " + priority, ARGUMENT,
                    () -> new BudgetKernel().source(0, 0, 1, 1, 1, 1, priority));
        }
        BudgetKernel k = new BudgetKernel();
        int[] priorities = {1, 31, 15, 0, 30, 16};
        for (int i = 0; i < 6; i++) {
            k.source(i, 0, 1, 1, 1, 500, priorities[i]);
        }
        for (int i = 0; i < 6; i++) {
            k.event(i);
        }
        Check.ticks("from 31 down to 0", k, 21, 24, 25, 22, 20, 23, 0);
    }

    private static void priorityIsItsOwn() {
        BudgetKernel k = new BudgetKernel();
        for (int priority : new int[] {0, 31}) {
            int first = priority == 0 ? 0 : 2;
            k.source(first, 0, 1, 1, 1, 500, priority);
            Check.dueThrow("another one's " + priority, IllegalStateException.class,
                    () -> k.source(first + 1, 0, 1, 1, 1, 500, priority));
        }
        k.source(1, 0, 1, 1, 1, 500, 1);
        k.source(3, 0, 1, 1, 1, 500, 30);
        Check.due("the numbers that were refused are free", k.event(1) + k.event(3), 2);
    }
}
