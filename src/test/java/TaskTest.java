import java.util.NoSuchElementException;

/** Promise 8: task. */
public final class TaskTest {
    public static void main(String[] args) {
        wrongArguments();
        workComesInATick();
        missedAndDone();
        theBoundNow();
        Check.end();
    }

    private static void wrongArguments() {
        Check.sentence("NoSuchElementException; IndexOutOfBoundsException for another what.");
        BudgetKernel k = new BudgetKernel();
        k.base(1, 10, 1, 0);
        for (int what : new int[] {-1, 4, Integer.MIN_VALUE, Integer.MAX_VALUE}) {
            Check.dueThrow("task 1, " + what, IndexOutOfBoundsException.class, () -> k.task(1, what));
            Check.dueThrow("task 0, " + what, NoSuchElementException.class, () -> k.task(0, what));
        }
        for (int task : new int[] {-1, 0, 2, 6}) {
            Check.dueThrow("task " + task + ", 0", NoSuchElementException.class, () -> k.task(task, 0));
        }
    }

    private static void all(String name, BudgetKernel k, int task, int... want) {
        for (int what = 0; what < want.length; what++) {
            Check.due(name + ", what " + what, k.task(task, what), want[what]);
        }
    }

    private static void workComesInATick() {
        Check.sentence("Of a base task: 0 ticks of work left (its work comes in a TICK, so 0 till then)");
        BudgetKernel k = new BudgetKernel();
        k.base(1, 10, 3, 0);
        k.base(2, 10, 2, 5);
        all("before a tick", k, 1, 0, 0, 0, 5);
        k.tick();
        all("the lower one waits", k, 1, 3, 0, 0, 5);
        all("the higher one works", k, 2, 1, 0, 0, 2);
        k.tick();
        all("the higher one is done", k, 2, 0, 0, 1, 2);
        k.ticks(3);
        all("the lower one is done", k, 1, 0, 0, 1, 5);
        k.ticks(5);
        all("at the period's end", k, 1, 0, 0, 1, 5);
        k.ticks(10);
        all("a period more", k, 1, 0, 0, 2, 5);
    }

    private static void missedAndDone() {
        Check.sentence("1 missed, 2 how often its work was done");
        BudgetKernel k = new BudgetKernel();
        k.source(0, 3, 1, 2000, 1, 500, 2);
        Check.due("admitted", k.base(4, 15, 5, 1), true);
        for (int i = 0; i < 15; i++) {
            k.event(0);
        }
        k.ticks(15);
        all("nothing done in the first period", k, 4, 5, 0, 0, 13);
        k.tick();
        all("missed once", k, 4, 5, 1, 0, 13);
        k.ticks(29);
        all("missed twice at the third begin alone", k, 4, 5, 2, 0, 13);
        k.ticks(1);
        all("missed three times", k, 4, 5, 3, 0, 13);
        k.ticks(14);
        all("done at last", k, 4, 0, 3, 1, 13);
    }

    private static void theBoundNow() {
        Check.sentence("3 its bound now (-1 without one).");
        BudgetKernel k = new BudgetKernel();
        k.base(0, 100, 10, 3);
        Check.due("alone", k.task(0, 3), 10);
        k.source(0, 1, 3, 20, 2, 10, 5);
        // 10 + (2 + 1) * 2 + (1 + 1) * 1 = 18, at 18: the same.
        Check.due("with a source", k.task(0, 3), 18);
        k.source(1, 0, 2, 30, 4, 15, 9);
        // At 30: 10 + (3 + 1) * 2 + (2 + 1) + (2 + 1) * 4 = 33; at 33: 10 + 10 + 3 + 16 = 39; at 39: the same.
        Check.due("with two sources", k.task(0, 3), 39);
        k.base(1, 50, 1, 4);
        Check.due("with a task above", k.task(0, 3), 40);
        k.base(2, 500, 1, 2);
        Check.due("with a task below", k.task(0, 3), 40);

        BudgetKernel three = new BudgetKernel();
        three.base(0, 100, 10, 3);
        three.base(1, 9, 2, 4);
        three.base(2, 20, 3, 5);
        // At 15: 10 + 2 * 2 + 1 * 3 = 17; at 17: the same.
        Check.due("with two tasks above", three.task(0, 3), 17);
        Check.due("the middle one", three.task(1, 3), 5);
    }
}
