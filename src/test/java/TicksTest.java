/** Promise 6: ticks. */
public final class TicksTest {
    public static void main(String[] args) {
        Check.sentence("So many ticks, one by one (0 .. 500): in how many something ran."
                + " IllegalArgumentException for another n.");
        BudgetKernel k = new BudgetKernel();
        k.source(0, 2, 3, 10, 2, 10, 1);
        Check.due("a base task", k.base(0, 30, 4, 1), true);
        k.event(0);
        String before = Check.state(k);
        for (int n : new int[] {-1, 501, Integer.MIN_VALUE, Integer.MAX_VALUE}) {
            Check.dueThrow("ticks " + n, IllegalArgumentException.class, () -> k.ticks(n));
        }
        Check.due("no ticks", k.ticks(0), 0);
        Check.due("nothing of these changes a thing", Check.state(k), before);
        // 2 of the top half, 2 of the handler, 4 of the task, and at 10 the handler's last.
        Check.due("top half and handler", k.ticks(4), 4);
        Check.due("the task", k.ticks(6), 4);
        Check.due("time", k.time(), 10);
        Check.due("what is given back", k.ticks(10), 1);
        Check.due("the greatest number", k.ticks(500), 4 * 17);
        Check.due("time at the end", k.time(), 520);
        noneAndAll();
        sameAsOneByOne();
        Check.end();
    }

    private static void noneAndAll() {
        BudgetKernel k = new BudgetKernel();
        Check.due("nothing in 500", k.ticks(500), 0);
        k.base(0, 1, 1, 0);
        Check.due("something in each of 500", k.ticks(500), 500);
        Check.due("no ticks, though there is work", k.ticks(0), 0);
        Check.due("one tick", k.ticks(1), 1);
        Check.due("499 ticks", k.ticks(499), 499);
        Check.due("time", k.time(), 1500);
        Check.due("done", k.task(0, 2), 1000);
    }

    private static void sameAsOneByOne() {
        BudgetKernel one = crowded();
        BudgetKernel many = crowded();
        int ran = 0;
        for (int i = 0; i < 300; i++) {
            if (one.tick() != 0) {
                ran++;
            }
        }
        Check.due("ticks in one call", many.ticks(300), ran);
        Check.due("the state behind them", Check.state(many), Check.state(one));
    }

    private static BudgetKernel crowded() {
        BudgetKernel k = new BudgetKernel();
        k.source(0, 2, 3, 10, 2, 15, 1);
        k.source(1, 1, 7, 10, 4, 40, 2);
        k.source(2, 0, 2, 10, 3, 33, 0);
        k.base(0, 300, 20, 1);
        for (int i = 0; i < 12; i++) {
            k.event(i % 3);
        }
        return k;
    }
}
