import java.util.NoSuchElementException;

/** Promise 1: no sources and no base tasks. */
public final class NewObjectTest {
    public static void main(String[] args) {
        Check.sentence("No sources, no base tasks.");
        BudgetKernel k = new BudgetKernel();
        for (int i = -1; i <= 6; i++) {
            final int n = i;
            Check.dueThrow("event " + n, NoSuchElementException.class, () -> k.event(n));
            Check.dueThrow("about " + n, NoSuchElementException.class, () -> k.about(n, 0));
            Check.dueThrow("bound " + n, NoSuchElementException.class, () -> k.bound(n));
            Check.dueThrow("used " + n, NoSuchElementException.class, () -> k.used(n, true, 0, 0));
            Check.dueThrow("task " + n, NoSuchElementException.class, () -> k.task(n, 0));
        }
        Check.due("time of a new object", k.time(), 0);
        Check.due("floor without sources", k.floor(77), 77);
        Check.due("tick of a new object", k.tick(), 0);
        Check.due("ticks of a new object", k.ticks(500), 0);
        BudgetKernel empty = new BudgetKernel();
        for (int i = 0; i < 6; i++) {
            empty.source(i, 3, 30, 2000, 30, 500, 31 - i);
        }
        BudgetKernel tasks = new BudgetKernel();
        for (int i = 0; i < 6; i++) {
            Check.due("each number and priority is free for a base task", tasks.base(i, 2000, 300, 31 - i), true);
        }
        Check.due("nothing is in the way of the heaviest sources", empty.floor(1000), 1000 - 6 * (3 * 30 + 2 * 3));

        BudgetKernel other = new BudgetKernel();
        other.source(0, 1, 1, 10, 1, 10, 0);
        Check.due("a base task in another object", other.base(0, 100, 1, 0), true);
        Check.due("an event in another object", other.event(0), 1);
        BudgetKernel fresh = new BudgetKernel();
        Check.dueThrow("objects share no source", NoSuchElementException.class, () -> fresh.event(0));
        Check.dueThrow("objects share no task", NoSuchElementException.class, () -> fresh.task(0, 0));
        Check.due("objects share no top half", fresh.tick(), 0);
        Check.due("objects share no time", other.time(), 0);
        Check.end();
    }
}
