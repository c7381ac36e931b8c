import java.util.NoSuchElementException;

/** Promise 7: about. */
public final class AboutTest {
    public static void main(String[] args) {
        wrongArguments();
        everyNumber();
        theLeastTimeIsNotTheFirst();
        theGreatestDelayStays();
        Check.end();
    }

    private static void wrongArguments() {
        Check.sentence("NoSuchElementException; IndexOutOfBoundsException for another what.");
        BudgetKernel k = new BudgetKernel();
        k.source(1, 0, 1, 1, 1, 1, 0);
        for (int what : new int[] {-1, 13, Integer.MIN_VALUE, Integer.MAX_VALUE}) {
            Check.dueThrow("about 1, " + what, IndexOutOfBoundsException.class, () -> k.about(1, what));
            Check.dueThrow("about 0, " + what, NoSuchElementException.class, () -> k.about(0, what));
        }
        for (int source : new int[] {-1, 0, 2, 6}) {
            Check.dueThrow("about " + source + ", 0", NoSuchElementException.class, () -> k.about(source, 0));
        }
    }

    private static void everyNumber() {
        Check.sentence("Of a source: 0 events taken, 1 handled, 2 lost, 3 in the queue, 4 masked (1, or 0),"
                + " 5 how often it was masked, 6 units left, 7 pieces");
        BudgetKernel k = new BudgetKernel();
        k.source(1, 0, 3, 1, 5, 20, 4);
        k.ticks(2);
        Check.abouts("new", k, 1, 0, 0, 0, 0, 0, 0, 5, 0, -1, 0, 0, 0, -1);
        for (int i = 0; i < 27; i++) {
            k.event(1);
        }
        Check.abouts("after a storm", k, 1, 25, 0, 2, 25, 1, 1, 5, 0, -1, 0, 0, 0, 2);
        k.ticks(4);
        Check.abouts("four ticks on", k, 1, 25, 1, 2, 24, 1, 1, 1, 1, 22, 4, 3, 1, 2);
        k.ticks(1);
        Check.abouts("spent", k, 1, 25, 1, 2, 24, 1, 1, 0, 1, 22, 5, 3, 2, 2);
        k.ticks(15);
        Check.abouts("given back", k, 1, 25, 1, 2, 24, 1, 1, 5, 0, -1, 0, 3, 2, 2);
        k.ticks(1);
        Check.abouts("and on", k, 1, 25, 2, 2, 23, 1, 1, 4, 1, 42, 1, 21, 0, 2);
    }

    private static void theLeastTimeIsNotTheFirst() {
        Check.sentence("8 the time at which the first one of those with the least time is given back"
                + " (-1 without one), 9 how much that is");
        BudgetKernel k = new BudgetKernel();
        k.source(0, 0, 30, 1, 6, 10, 1);
        k.source(1, 0, 1, 1, 30, 500, 2);
        k.event(0);
        k.tick();
        k.tick();
        Check.due("a piece of two", k.about(0, 9), 2);
        blocked(k, 8);
        // At 10: four units since 0, two since 10. At 11 the four are older than a period.
        blocked(k, 1);
        for (int i = 0; i < 4; i++) {
            k.tick();
        }
        Check.due("four pieces, each of its tick", k.about(0, 7), 4);
        Check.due("the least is the first", k.about(0, 8), 21);
        Check.due("its amount", k.about(0, 9), 1);
        k.ticks(2);
        Check.due("a fifth of two units since 10", k.about(0, 7), 5);
        Check.due("the least is the last", k.about(0, 8), 20);
        Check.due("its amount is two", k.about(0, 9), 2);
    }

    private static void blocked(BudgetKernel k, int n) {
        for (int i = 0; i < n; i++) {
            k.event(1);
            k.tick();
        }
    }

    private static void theGreatestDelayStays() {
        Check.sentence("10 the greatest delay (0 without one), 11 ticks of its first event that are done,"
                + " 12 since when its queue is busy (-1 when it is empty).");
        BudgetKernel k = new BudgetKernel();
        k.source(0, 0, 2, 1, 30, 500, 1);
        Check.due("without one", k.about(0, 10), 0);
        Check.due("nothing done", k.about(0, 11), 0);
        Check.due("empty", k.about(0, 12), -1);
        k.event(0);
        k.event(0);
        k.ticks(4);
        Check.due("the second one's delay", k.about(0, 10), 4);
        k.event(0);
        k.ticks(2);
        Check.due("a shorter one does not count", k.about(0, 10), 4);
        Check.due("empty again", k.about(0, 12), -1);
        k.event(0);
        k.tick();
        Check.due("one tick done", k.about(0, 11), 1);
        Check.due("busy since 6", k.about(0, 12), 6);
    }
}
