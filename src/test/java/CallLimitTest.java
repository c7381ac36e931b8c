import java.util.NoSuchElementException;

/** As many calls as an object is used for, of the dearest kinds. */
public final class CallLimitTest {
    private static final int CALLS = 512;

    public static void main(String[] args) {
        Check.sentence("An object is used for at most 512 calls after it has been made");
        mostTicks();
        mostEvents();
        storms();
        laterCallsEnd();
        Check.end();
    }

    private static void mostTicks() {
        BudgetKernel k = new BudgetKernel();
        k.source(0, 0, 1, 2000, 1, 500, 0);
        Check.due("a base task", k.base(0, 7, 1, 0), true);
        int ran = 0;
        for (int i = 3; i < CALLS - 2; i++) {
            ran += k.ticks(500);
        }
        int time = (CALLS - 5) * 500;
        Check.due("each seventh tick", ran, (time + 6) / 7);
        Check.due("done", k.task(0, 2), (time + 6) / 7);
        Check.due("time", k.time(), time);
    }

    private static void mostEvents() {
        BudgetKernel k = new BudgetKernel();
        k.source(0, 3, 30, 1, 1, 500, 0);
        for (int i = 1; i < CALLS - 3; i++) {
            k.event(0);
        }
        Check.due("taken", k.about(0, 0), 25);
        Check.due("lost", k.about(0, 2), CALLS - 4 - 25);
        Check.due("masked once", k.about(0, 5), 1);
    }

    /** Each period's budget goes, so what was handled is known. */
    private static void storms() {
        BudgetKernel k = new BudgetKernel();
        for (int i = 0; i < 6; i++) {
            k.source(i, 0, 1, 1, 20, 120, i);
        }
        int ran = 0;
        for (int round = 0; round < 3; round++) {
            for (int i = 0; i < 6; i++) {
                Check.events(k, i, 20);
            }
            ran += k.ticks(120);
        }
        Check.due("without a gap", ran, 360);
        for (int i = 0; i < 6; i++) {
            Check.due("handled of " + i, k.about(i, 1), 60);
        }
    }

    /** What they answer is free, but only the document's exceptions may come, and each call ends. */
    private static void laterCallsEnd() {
        BudgetKernel k = new BudgetKernel();
        k.source(0, 3, 7, 100, 5, 60, 0);
        k.base(0, 50, 5, 0);
        Check.dueNoThrow("twenty times as many calls", () -> {
            for (int i = 0; i < 20 * CALLS; i++) {
                k.event(0);
                k.ticks(i % 501);
                k.about(0, i % 13);
                k.task(0, i % 4);
                k.used(0, true, k.time(), k.time());
            }
        });
        Check.dueThrow("and the same are refused", NoSuchElementException.class, () -> k.event(6));
    }
}
