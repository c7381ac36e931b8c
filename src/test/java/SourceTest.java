import java.util.NoSuchElementException;

/** Promise 2: source. */
public final class SourceTest {
    private static final Class<NoSuchElementException> NO_SUCH = NoSuchElementException.class;
    private static final Class<IllegalArgumentException> ARGUMENT = IllegalArgumentException.class;
    private static final Class<IllegalStateException> STATE = IllegalStateException.class;

    public static void main(String[] args) {
        edgesAreTaken();
        numbersOutOfBounds();
        toldTwice();
        prioritiesAreApart();
        tasksStayAdmitted();
        eachTaskStaysAdmitted();
        topsCountForTheTasks();
        toldLater();
        theFirstNamedException();
        Check.end();
    }

    private static void edgesAreTaken() {
        BudgetKernel k = new BudgetKernel();
        k.source(0, 0, 1, 1, 1, 1, 0);
        k.source(5, 3, 30, 2000, 30, 500, 31);
        Check.due("units left of the least budget", k.about(0, 6), 1);
        Check.due("units left of the greatest budget", k.about(5, 6), 30);
        for (int what = 0; what <= 12; what++) {
            int want = what == 6 ? 30 : what == 8 || what == 12 ? -1 : 0;
            Check.due("a new source, what " + what, k.about(5, what), want);
        }
    }

    private static void numbersOutOfBounds() {
        Check.sentence("NoSuchElementException when it is not 0 .. 5;"
                + " IllegalArgumentException when a number is not within its bounds");
        BudgetKernel k = new BudgetKernel();
        String before = Check.state(k);
        refused(k, NO_SUCH, -1, 0, 1, 1, 1, 1, 0);
        refused(k, NO_SUCH, 6, 0, 1, 1, 1, 1, 0);
        refused(k, NO_SUCH, Integer.MIN_VALUE, 0, 1, 1, 1, 1, 0);
        refused(k, NO_SUCH, Integer.MAX_VALUE, 0, 1, 1, 1, 1, 0);
        refused(k, ARGUMENT, 0, -1, 1, 1, 1, 1, 0);
        refused(k, ARGUMENT, 0, 4, 1, 1, 1, 1, 0);
        refused(k, ARGUMENT, 0, 0, 0, 1, 1, 1, 0);
        refused(k, ARGUMENT, 0, 0, 31, 1, 1, 1, 0);
        refused(k, ARGUMENT, 0, 0, 1, 0, 1, 1, 0);
        refused(k, ARGUMENT, 0, 0, 1, 2001, 1, 1, 0);
        refused(k, ARGUMENT, 0, 0, 1, 1, 0, 1, 0);
        refused(k, ARGUMENT, 0, 0, 1, 1, 31, 1, 0);
        refused(k, ARGUMENT, 0, 0, 1, 1, 1, 0, 0);
        refused(k, ARGUMENT, 0, 0, 1, 1, 1, 501, 0);
        refused(k, ARGUMENT, 0, 0, 1, 1, 1, 1, -1);
        refused(k, ARGUMENT, 0, 0, 1, 1, 1, 1, 32);
        Check.due("what is refused changes nothing", Check.state(k), before);
    }

    private static void toldTwice() {
        Check.sentence("IllegalStateException when it was told");
        BudgetKernel k = new BudgetKernel();
        k.source(2, 1, 4, 50, 3, 40, 6);
        String before = Check.state(k);
        refused(k, STATE, 2, 1, 4, 50, 3, 40, 6);
        refused(k, STATE, 2, 0, 1, 10, 1, 10, 7);
        Check.due("telling it again changes nothing", Check.state(k), before);
        k.event(2);
        k.ticks(100);
        refused(k, STATE, 2, 1, 4, 50, 3, 40, 6);
        Check.due("nor later", k.about(2, 1), 1);
    }

    private static void prioritiesAreApart() {
        Check.sentence("its priority is another one's");
        BudgetKernel k = new BudgetKernel();
        k.source(2, 1, 4, 50, 3, 40, 6);
        refused(k, STATE, 3, 1, 4, 50, 3, 40, 6);
        Check.dueThrow("the refused one is not told", NO_SUCH, () -> k.about(3, 0));
        Check.due("a base task may have a source's priority", k.base(0, 500, 1, 6), true);
        Check.dueNoThrow("a source may have a base task's priority", () -> {
            BudgetKernel other = new BudgetKernel();
            other.base(0, 500, 1, 6);
            other.source(0, 1, 4, 50, 3, 40, 6);
        });
    }

    private static void tasksStayAdmitted() {
        Check.sentence("or the base tasks that there are would not be admitted any more.");
        BudgetKernel k = new BudgetKernel();
        Check.due("the task before the source", k.base(0, 10, 2, 1), true);
        String before = Check.state(k);
        // 2 + (1 + 1) * 4 = 10 is just enough with a budget of 4; 5 are too many.
        refused(k, STATE, 1, 0, 1, 100, 5, 100, 3);
        Check.due("a source that leaves too little changes nothing", Check.state(k), before);
        Check.dueThrow("it is not told", NO_SUCH, () -> k.about(1, 6));
        Check.dueNoThrow("one that leaves just enough", () -> k.source(1, 0, 1, 100, 4, 100, 3));
        Check.due("units of the one that was taken", k.about(1, 6), 4);
        Check.due("the task's bound with it", k.task(0, 3), 10);
        refused(k, STATE, 2, 0, 1, 100, 1, 100, 4);
        Check.due("what remains is that of one source", k.floor(100), 92);
    }

    /** A source of budget b adds 2 * b to each bound, and one of the tasks has a period that allows 6. */
    private static void eachTaskStaysAdmitted() {
        int[][] periods = {{11, 200, 300}, {100, 21, 300}, {100, 200, 41}};
        for (int[] period : periods) {
            BudgetKernel k = new BudgetKernel();
            k.base(0, period[0], 5, 9);
            k.base(1, period[1], 10, 5);
            Check.due("all three are admitted", k.base(2, period[2], 20, 1), true);
            refused(k, STATE, 4, 0, 1, 2000, 4, 500, 0);
            Check.dueNoThrow("a source that leaves just enough", () -> k.source(4, 0, 1, 2000, 3, 500, 0));
            refused(k, STATE, 5, 0, 1, 2000, 1, 500, 1);
        }
    }

    private static void topsCountForTheTasks() {
        BudgetKernel k = new BudgetKernel();
        Check.due("the task before the source", k.base(0, 10, 2, 1), true);
        // 2 + 2 * 1 + 2 * 3 = 10 is just enough for the distance 10; at 9 a third top half may come.
        refused(k, STATE, 0, 3, 1, 9, 1, 10, 3);
        Check.dueNoThrow("just far enough apart", () -> k.source(0, 3, 1, 10, 1, 10, 3));
        Check.due("the task's bound with it", k.task(0, 3), 10);
    }

    private static void toldLater() {
        BudgetKernel k = new BudgetKernel();
        k.base(0, 100, 10, 0);
        k.ticks(500);
        k.source(5, 2, 1, 100, 1, 100, 31);
        Check.abouts("told at 500", k, 5, 0, 0, 0, 0, 0, 0, 1, 0, -1, 0, 0, 0, -1);
        k.event(5);
        Check.ticks("told at 500", k, 15, 15, 25, 30);
        Check.abouts("at 504", k, 5, 1, 1, 0, 0, 0, 0, 0, 1, 600, 1, 3, 0, -1);
    }

    private static void theFirstNamedException() {
        BudgetKernel k = new BudgetKernel();
        k.source(2, 1, 4, 50, 3, 40, 6);
        refused(k, NO_SUCH, 6, 9, 9, 9, 99, 9, 6);
        refused(k, ARGUMENT, 2, 9, 4, 50, 3, 40, 6);
        refused(k, ARGUMENT, 3, 1, 4, 50, 3, 0, 6);
    }

    private static void refused(BudgetKernel k, Class<? extends RuntimeException> want, int... a) {
        Check.dueThrow("source " + java.util.Arrays.toString(a), want,
                () -> k.source(a[0], a[1], a[2], a[3], a[4], a[5], a[6]));
    }
}
