import java.util.NoSuchElementException;

/** Promise 3: base. */
public final class BaseTest {
    private static final Class<NoSuchElementException> NO_SUCH = NoSuchElementException.class;
    private static final Class<IllegalArgumentException> ARGUMENT = IllegalArgumentException.class;
    private static final Class<IllegalStateException> STATE = IllegalStateException.class;

    public static void main(String[] args) {
        edgesAreTaken();
        eachEdge();
        wrongNumbers();
        toldOrPriorityTaken();
        notAdmitted();
        nothingHappens();
        aTaskBelowMustStayAdmitted();
        beginsNow();
        Check.end();
    }

    private static void edgesAreTaken() {
        BudgetKernel k = new BudgetKernel();
        Check.due("the greatest numbers", k.base(5, 2000, 500, 31), true);
        Check.due("priority 0", k.base(0, 2000, 1, 0), true);
        Check.due("the least period and cost", new BudgetKernel().base(0, 1, 1, 0), true);
    }

    private static void eachEdge() {
        Check.sentence("A base task, of a period 1 .. 2000, a cost 1 .. 500, a priority 0 .. 31"
                + " (no other base task's), that begins now");
        for (int[] a : new int[][] {{1, 1, 5}, {2000, 1, 5}, {2000, 500, 5}, {500, 500, 5}, {10, 1, 0}, {10, 1, 31}}) {
            BudgetKernel k = new BudgetKernel();
            Check.due("base of " + a[0] + " " + a[1] + " " + a[2], k.base(0, a[0], a[1], a[2]), true);
            Check.due("its bound", k.task(0, 3), a[1]);
            k.ticks(a[1] < 500 ? a[1] : 500);
            Check.due("its work is done", k.task(0, 2), 1);
        }
        for (int wrong : new int[] {Integer.MIN_VALUE, -1, 0, 2001, Integer.MAX_VALUE}) {
            refused(new BudgetKernel(), ARGUMENT, 0, wrong, 1, 5);
        }
        for (int wrong : new int[] {Integer.MIN_VALUE, -1, 0, 501, Integer.MAX_VALUE}) {
            refused(new BudgetKernel(), ARGUMENT, 0, 2000, wrong, 5);
        }
        for (int wrong : new int[] {Integer.MIN_VALUE, -1, 32, Integer.MAX_VALUE}) {
            refused(new BudgetKernel(), ARGUMENT, 0, 2000, 1, wrong);
        }
    }

    private static void wrongNumbers() {
        Check.sentence("NoSuchElementException when it is not 0 .. 5; IllegalArgumentException");
        BudgetKernel k = new BudgetKernel();
        String before = Check.state(k);
        refused(k, NO_SUCH, -1, 10, 1, 1);
        refused(k, NO_SUCH, 6, 10, 1, 1);
        refused(k, NO_SUCH, 6, 0, 0, 32);
        refused(k, ARGUMENT, 0, 0, 1, 1);
        refused(k, ARGUMENT, 0, 2001, 1, 1);
        refused(k, ARGUMENT, 0, 10, 0, 1);
        refused(k, ARGUMENT, 0, 2000, 501, 1);
        refused(k, ARGUMENT, 0, 10, 1, -1);
        refused(k, ARGUMENT, 0, 10, 1, 32);
        Check.due("what is refused changes nothing", Check.state(k), before);
    }

    private static void toldOrPriorityTaken() {
        Check.sentence("IllegalStateException when it was told, or its priority is another one's.");
        BudgetKernel k = new BudgetKernel();
        Check.due("the first", k.base(3, 100, 1, 8), true);
        refused(k, STATE, 3, 100, 1, 9);
        refused(k, STATE, 4, 100, 1, 8);
        refused(k, ARGUMENT, 3, 100, 1, 32);
        // The priority is looked at before the admission.
        refused(k, STATE, 4, 1, 500, 8);
        Check.dueThrow("the refused one is not told", NO_SUCH, () -> k.task(4, 0));
    }

    private static void notAdmitted() {
        Check.sentence("whether all are admitted with it; otherwise nothing happens.");
        BudgetKernel k = new BudgetKernel();
        Check.due("a cost above the period", k.base(0, 4, 5, 1), false);
        Check.dueThrow("it is not told", NO_SUCH, () -> k.task(0, 0));
        Check.due("the same task with a cost that fits", k.base(0, 5, 5, 1), true);
        Check.due("none fits beside it", k.base(1, 2000, 1, 0), false);
        Check.due("nothing of it runs", k.ticks(10), 10);
        Check.dueThrow("nor is it told later", NO_SUCH, () -> k.task(1, 2));

        BudgetKernel s = new BudgetKernel();
        s.source(0, 1, 1, 100, 2, 100, 0);
        // SOURCES(R) is 2 * 2 + 2 * 1 for every R up to 100.
        Check.due("one tick too many beside a source", s.base(0, 10, 5, 0), false);
        Check.due("just enough beside a source", s.base(0, 10, 4, 0), true);
        Check.due("its bound", s.task(0, 3), 10);
    }

    /** Its number, its priority and its begin stay as free as they were. */
    private static void nothingHappens() {
        BudgetKernel k = new BudgetKernel();
        k.source(0, 1, 2, 100, 2, 100, 0);
        k.base(0, 50, 5, 3);
        String before = Check.state(k);
        Check.due("too long", k.base(4, 15, 10, 7), false);
        Check.due("too long for another one", k.base(4, 2000, 500, 7), false);
        Check.due("nothing happened", Check.state(k), before);
        k.ticks(3);
        Check.due("another one with its priority", k.base(5, 60, 1, 7), true);
        Check.due("the same one with another priority", k.base(4, 60, 1, 8), true);
        Check.ticks("both begin now", k, 34, 35, 30, 30);
        Check.due("none missed", k.task(4, 1) + k.task(5, 1), 0);
    }

    private static void aTaskBelowMustStayAdmitted() {
        BudgetKernel k = new BudgetKernel();
        Check.due("the lower one", k.base(0, 10, 6, 1), true);
        Check.due("a higher one that takes its time", k.base(1, 20, 5, 2), false);
        Check.due("the lower one's bound is as before", k.task(0, 3), 6);
        Check.due("a higher one that leaves enough", k.base(1, 20, 4, 2), true);
        Check.due("the lower one's bound with it", k.task(0, 3), 10);
        Check.due("the higher one's bound", k.task(1, 3), 4);
    }

    private static void beginsNow() {
        Check.sentence("that begins now");
        BudgetKernel k = new BudgetKernel();
        k.ticks(7);
        Check.due("a task at time 7", k.base(2, 5, 1, 0), true);
        int[] want = {32, 0, 0, 0, 0, 32, 0, 0, 0, 0, 32};
        for (int i = 0; i < want.length; i++) {
            Check.due("tick " + (7 + i), k.tick(), want[i]);
        }
    }

    private static void refused(BudgetKernel k, Class<? extends RuntimeException> want, int... a) {
        Check.dueThrow("base " + java.util.Arrays.toString(a), want, () -> k.base(a[0], a[1], a[2], a[3]));
    }
}
