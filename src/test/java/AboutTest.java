import java.util.NoSuchElementException;

/** Promise 7: about. */
public final class AboutTest {
    public static void main(String[] args) {
        wrongArguments();
        everyNumber();
        theLeastTimeIsNotTheFirst();
        theGreatestDelayStays();
        Check.end();
    }

    private static void wrongArguments() {
        BudgetKernel k = new BudgetKernel();
        k.source(1, 0, 1, 1, 1, 1, 0);
        for (int what : new int[] {-1, 13, Integer.MIN_VALUE, Integer.MAX_VALUE}) {
            Check.dueThrow("about 1, " + what, IndexOutOfBoundsException.class, () -> k.about(1, what));
            Check.dueThrow("about 0, " + what, NoSuchElementException.class, () -> k.about(0, what));
        }
        for (int source : new int[] {-1, 0, 2, 6}) {
            Check.dueThrow("about " + source + ", 0", NoSuchElementException.class, () -> k.about(source, 0));
        }
    }

    private static void all(String name, BudgetKernel k, int source, int... want) {
        for (int what = 0; what < want.length; what++) {
            Check.due(name + ", what " + what, k.about(source, what), want[what]);
        }
    }

    private static void everyNumber() {
        BudgetKernel k = new BudgetKernel();
        k.source(1, 0, 3, 1, 5, 20, 4);
        k.ticks(2);
        all("new", k, 1, 0, 0, 0, 0, 0, 0, 5, 0, -1, 0, 0, 0, -1);
        for (int i = 0; i < 27; i++) {
            k.event(1);
        }
        all("after a storm", k, 1, 25, 0, 2, 25, 1, 1, 5, 0, -1, 0, 0, 0, 2);
        k.ticks(4);
        all("four ticks on", k, 1, 25, 1, 2, 24, 1, 1, 1, 1, 22, 4, 3, 1, 2);
        k.ticks(1);
        all("spent", k, 1, 25, 1, 2, 24, 1, 1, 0, 1, 22, 5, 3, 2, 2);
        k.ticks(15);
        all("given back", k, 1, 25, 1, 2, 24, 1, 1, 5, 0, -1, 0, 3, 2, 2);
        k.ticks(1);
        all("and on", k, 1, 25, 2, 2, 23, 1, 1, 4, 1, 42, 1, 21, 0, 2);
    }

    private static void theLeastTimeIsNotTheFirst() {
        BudgetKernel k = new BudgetKernel();
        k.source(0, 0, 30, 1, 6, 10, 1);
        k.source(1, 0, 1, 1, 30, 500, 2);
        k.event(0);
        k.tick();
        k.tick();
        Check.due("a piece of two", k.about(0, 9), 2);
        blocked(k, 8);
        // At 10: four units since 0, two since 10. At 11 the four are older than a period.
        blocked(k, 1);
        for (int i = 0; i < 4; i++) {
            k.tick();
        }
        Check.due("four pieces, each of its tick", k.about(0, 7), 4);
        Check.due("the least is the first", k.about(0, 8), 21);
        Check.due("its amount", k.about(0, 9), 1);
        k.ticks(2);
        Check.due("a fifth of two units since 10", k.about(0, 7), 5);
        Check.due("the least is the last", k.about(0, 8), 20);
        Check.due("its amount is two", k.about(0, 9), 2);
    }

    private static void blocked(BudgetKernel k, int n) {
        for (int i = 0; i < n; i++) {
            k.event(1);
            k.tick();
        }
    }

    private static void theGreatestDelayStays() {
        BudgetKernel k = new BudgetKernel();
        k.source(0, 0, 2, 1, 30, 500, 1);
        k.event(0);
        k.event(0);
        k.ticks(4);
        Check.due("the second one's delay", k.about(0, 10), 4);
        k.event(0);
        k.ticks(2);
        Check.due("a shorter one does not count", k.about(0, 10), 4);
    }
}
