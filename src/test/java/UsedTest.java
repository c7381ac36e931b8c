import java.util.NoSuchElementException;

/** Promise 10: used. */
public final class UsedTest {
    private static final Class<IndexOutOfBoundsException> INDEX = IndexOutOfBoundsException.class;

    public static void main(String[] args) {
        counts();
        wrongArguments();
        aThousandTicksAgo();
        theRowGoesRound();
        Check.end();
    }

    private static void counts() {
        Check.sentence("In how many of the ticks from .. to - 1 a source's handler (or its top half, too) ran.");
        BudgetKernel k = new BudgetKernel();
        k.source(0, 2, 3, 500, 3, 500, 1);
        k.source(1, 1, 1, 500, 1, 500, 2);
        k.base(0, 500, 2, 0);
        k.event(0);
        k.event(1);
        // 10 10 11 21 20 20 20 30 30 0
        k.ticks(10);
        Check.due("handler of 0", k.used(0, false, 0, 10), 3);
        Check.due("handler and top of 0", k.used(0, true, 0, 10), 5);
        Check.due("handler of 1", k.used(1, false, 0, 10), 1);
        Check.due("handler and top of 1", k.used(1, true, 0, 10), 2);
        Check.due("from is in", k.used(0, false, 4, 5), 1);
        Check.due("to is not", k.used(0, false, 3, 4), 0);
        Check.due("a part", k.used(0, true, 1, 6), 3);
        Check.due("no ticks", k.used(0, true, 5, 5), 0);
        Check.due("no ticks at the time", k.used(0, true, 10, 10), 0);
    }

    private static void wrongArguments() {
        Check.sentence("IndexOutOfBoundsException when they are not 0 <= from <= to <= the time");
        BudgetKernel k = new BudgetKernel();
        k.source(0, 2, 3, 500, 3, 500, 1);
        Check.due("at time 0", k.used(0, true, 0, 0), 0);
        Check.dueThrow("at time 0, to 1", INDEX, () -> k.used(0, true, 0, 1));
        Check.dueThrow("at time 0, from 1", INDEX, () -> k.used(0, true, 1, 1));
        k.ticks(10);
        Check.due("0 to the time", k.used(0, true, 0, 10), 0);
        Check.due("from and to the time", k.used(0, true, 10, 10), 0);
        Check.dueThrow("from and to one more than the time", INDEX, () -> k.used(0, true, 11, 11));
        Check.dueThrow("from the time to one less", INDEX, () -> k.used(0, true, 10, 9));
        Check.dueThrow("from -1 to -1", INDEX, () -> k.used(0, true, -1, -1));
        Check.dueThrow("from -1", INDEX, () -> k.used(0, true, -1, 5));
        Check.dueThrow("from above to", INDEX, () -> k.used(0, true, 6, 5));
        Check.dueThrow("to above the time", INDEX, () -> k.used(0, true, 6, 11));
        Check.dueThrow("extremes", INDEX, () -> k.used(0, true, Integer.MIN_VALUE, Integer.MAX_VALUE));
        Check.dueThrow("both low", INDEX, () -> k.used(0, true, Integer.MIN_VALUE, Integer.MIN_VALUE));
        Check.dueThrow("both high", INDEX, () -> k.used(0, true, Integer.MAX_VALUE, Integer.MAX_VALUE));
        Check.sentence("NoSuchElementException");
        for (int source : new int[] {-1, 1, 6}) {
            Check.dueThrow("source " + source, NoSuchElementException.class, () -> k.used(source, true, 0, 5));
            Check.dueThrow("source " + source, NoSuchElementException.class, () -> k.used(source, true, -1, 5));
        }
    }

    private static void aThousandTicksAgo() {
        Check.sentence("or from is more than 1000 ticks ago.");
        BudgetKernel k = new BudgetKernel();
        k.source(0, 1, 1, 1, 1, 1, 1);
        k.event(0);
        k.ticks(500);
        k.ticks(500);
        Check.due("time 1000: all of it", k.used(0, true, 0, 1000), 2);
        k.event(0);
        k.tick();
        Check.dueThrow("1001 ticks ago", INDEX, () -> k.used(0, true, 0, 0));
        Check.dueThrow("1001 ticks ago, to the end", INDEX, () -> k.used(0, true, 0, 1001));
        Check.due("1000 ticks ago", k.used(0, true, 1, 1001), 2);
        Check.due("the first of them", k.used(0, true, 1, 2), 1);
        Check.due("the last of them", k.used(0, true, 1000, 1001), 1);
        k.ticks(500);
        k.ticks(499);
        Check.due("time 2000", k.used(0, true, 1000, 2000), 2);
        Check.due("the handler of time 1001", k.used(0, false, 1001, 1002), 1);
    }

    /** An event each 25 ticks: the top half runs in its tick, the handler in the next one. */
    private static void theRowGoesRound() {
        BudgetKernel k = new BudgetKernel();
        k.source(3, 1, 1, 1, 1, 1, 1);
        for (int i = 0; i < 101; i++) {
            k.event(3);
            k.ticks(i < 100 ? 25 : 7);
        }
        Check.due("time", k.time(), 2507);
        Check.dueThrow("1001 ticks ago", INDEX, () -> k.used(3, true, 1506, 2507));
        for (int from = 1507; from <= 2507; from += 20) {
            for (int to : new int[] {from, Math.min(from + 1, 2507), Math.max(from, 2000), 2507}) {
                Check.due("handler " + from + " to " + to, k.used(3, false, from, to), ran(1, from, to));
                if (from % 100 == 7) {
                    Check.due("both " + from + " to " + to, k.used(3, true, from, to), ran(0, from, to) + ran(1, from, to));
                }
            }
        }
    }

    /** How many of the ticks from .. to - 1 leave this rest, divided by 25. */
    private static int ran(int rest, int from, int to) {
        int count = 0;
        for (int t = from; t < to; t++) {
            count += t % 25 == rest ? 1 : 0;
        }
        return count;
    }
}
