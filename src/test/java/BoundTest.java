import java.util.NoSuchElementException;

/** Promise 9: bound. */
public final class BoundTest {
    public static void main(String[] args) {
        noSuchSource();
        whoHasOne();
        higherSourcesAndAllTops();
        overThePeriod();
        Check.end();
    }

    private static void noSuchSource() {
        Check.sentence("A source's bound; -1 when it has none. NoSuchElementException.");
        BudgetKernel k = new BudgetKernel();
        k.source(1, 0, 1, 1, 1, 1, 0);
        for (int source : new int[] {-1, 0, 2, 6}) {
            Check.dueThrow("bound " + source, NoSuchElementException.class, () -> k.bound(source));
        }
    }

    private static int alone(int top, int cost, int distance, int budget, int period) {
        BudgetKernel k = new BudgetKernel();
        k.source(0, top, cost, distance, budget, period, 7);
        return k.bound(0);
    }

    private static void whoHasOne() {
        Check.due("cost alone", alone(0, 5, 100, 5, 100), 5);
        Check.due("a cost above the budget", alone(0, 6, 100, 5, 100), -1);
        Check.due("a distance below the period", alone(0, 5, 99, 5, 100), -1);
        Check.due("a distance above the period", alone(0, 5, 101, 5, 100), 5);
        Check.due("its own tops count", alone(2, 5, 100, 5, 100), 9);
        Check.due("1 is one", alone(0, 1, 1, 1, 1), 1);
    }

    private static void higherSourcesAndAllTops() {
        BudgetKernel k = new BudgetKernel();
        k.source(0, 1, 2, 100, 4, 50, 5);
        Check.due("alone", k.bound(0), 4);
        k.source(1, 2, 1, 10, 30, 500, 4);
        // 2 + (1 + 1) * 1 + (1 + 1) * 2 = 8: the lower one's budget does not count, its tops do.
        Check.due("with a lower one", k.bound(0), 8);
        k.source(2, 0, 1, 100, 3, 7, 6);
        // At 14: 2 + (2 + 1) * 3 + 2 + (2 + 1) * 2 = 19; at 19: 2 + 12 + 2 + 6 = 22;
        // at 22: 2 + 15 + 2 + 8 = 27; at 27: the same.
        Check.due("with a higher one", k.bound(0), 27);
        Check.due("the highest has tops alone above it", k.bound(2), 7);
        Check.due("a base task", k.base(0, 2000, 1, 31), true);
        Check.due("base tasks do not count", k.bound(0), 27);
    }

    private static void overThePeriod() {
        BudgetKernel k = new BudgetKernel();
        k.source(0, 0, 4, 500, 4, 10, 5);
        k.source(1, 0, 1, 500, 3, 100, 6);
        Check.due("as long as the period", k.bound(0), 10);
        BudgetKernel over = new BudgetKernel();
        over.source(0, 0, 5, 500, 5, 10, 5);
        over.source(1, 0, 1, 500, 3, 100, 6);
        Check.due("longer than the period", over.bound(0), -1);
        Check.due("the other one's", over.bound(1), 1);
    }
}
