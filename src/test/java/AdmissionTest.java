import java.util.NoSuchElementException;

/** The terms' bounds: exact multiples and one more, as long as the period and one longer, none. */
public final class AdmissionTest {
    public static void main(String[] args) {
        ceilings();
        whatSourcesTake();
        theLeastBoundOfATask();
        theLeastOfSeveral();
        aTasksBoundAndItsPeriod();
        tasksAbove();
        allHaveOne();
        sourcesWithoutABound();
        aSourcesBoundAndItsPeriod();
        Check.end();
    }

    private static BudgetKernel one(int top, int cost, int distance, int budget, int period) {
        BudgetKernel k = new BudgetKernel();
        k.source(0, top, cost, distance, budget, period, 7);
        return k;
    }

    private static void ceilings() {
        Check.sentence("with ceil(a, b) the least whole number not below a / b");
        BudgetKernel k = one(0, 1, 1, 1, 10);
        Check.due("ceil(9, 10) is 1", k.floor(9), 9 - 2);
        Check.due("ceil(10, 10) is 1", k.floor(10), 10 - 2);
        Check.due("ceil(11, 10) is 2", k.floor(11), 11 - 3);
        Check.due("ceil(20, 10) is 2", k.floor(20), 20 - 3);
        Check.due("ceil(21, 10) is 3", k.floor(21), 21 - 4);
        Check.due("ceil(99999, 10) is 10000", k.floor(99999), 99999 - 10001);
        Check.due("ceil(100000, 10) is 10000", k.floor(100000), 100000 - 10001);
        // ceil(0, b) is 0, so a source takes its budget and top once of no ticks.
        Check.due("ceil(0, 10) is 0", k.floor(0), 0);
        Check.due("ceil(1, 10) is 1", k.floor(1), 0);
        Check.due("ceil(2, 2) is 1", one(0, 1, 1, 1, 2).floor(2), 0);
        Check.due("ceil(3, 1) is 3", one(0, 1, 1, 1, 1).floor(3), 0);
    }

    private static void whatSourcesTake() {
        Check.sentence("for each source (ceil(R, period) + 1) * budget + (ceil(R, distance) + 1) * top, added up.");
        Check.due("of no source", new BudgetKernel().floor(100000), 100000);
        BudgetKernel k = one(2, 1, 30, 5, 100);
        Check.due("at 30", k.floor(30), 30 - 2 * 5 - 2 * 2);
        Check.due("at 31", k.floor(31), 31 - 2 * 5 - 3 * 2);
        Check.due("at 100", k.floor(100), 100 - 2 * 5 - 5 * 2);
        Check.due("at 101", k.floor(101), 101 - 3 * 5 - 5 * 2);
        BudgetKernel six = new BudgetKernel();
        int sum = 0;
        for (int i = 0; i < 6; i++) {
            six.source(i, i % 4, 30, 100 + i, i + 1, 200 + i, 31 - i);
            // ceil(1000, 200 + i) is 5, and ceil(1000, 100 + i) is 10.
            sum += 6 * (i + 1) + 11 * (i % 4);
        }
        Check.due("of six", six.floor(1000), 1000 - sum);
        BudgetKernel heaviest = new BudgetKernel();
        for (int i = 0; i < 6; i++) {
            heaviest.source(i, 3, 30, 1, 30, 1, i);
        }
        Check.due("far more than there is", heaviest.floor(100000), 0);
    }

    private static void theLeastBoundOfATask() {
        Check.sentence("BASE TASK i has the bound: the least R >= 1 with R = cost + SOURCES(R)"
                + " + for each base task of higher priority ceil(R, its period) * its cost");
        BudgetKernel k = new BudgetKernel();
        Check.due("cost 1, period 1", k.base(0, 1, 1, 0), true);
        Check.due("1", k.task(0, 3), 1);
        BudgetKernel most = new BudgetKernel();
        Check.due("cost 500, period 500", most.base(0, 500, 500, 0), true);
        Check.due("500", most.task(0, 3), 500);
    }

    /** 1 + 10 * ceil(R, 12) is R for 11, 21, 31, 41, 51 and 61. */
    private static void theLeastOfSeveral() {
        Check.sentence("sought from R = 1 on by taking the right side as the next R");
        BudgetKernel k = new BudgetKernel();
        k.base(0, 12, 10, 1);
        Check.due("admitted", k.base(1, 61, 1, 0), true);
        Check.due("the least of six", k.task(1, 3), 11);
    }

    private static void aTasksBoundAndItsPeriod() {
        Check.sentence("none, if that becomes greater than its period. Tasks are ADMITTED, if all have one.");
        // SOURCES(R) is 2 * 3 + 2 * 2 for every R up to 100.
        Check.due("longer than the period", one(2, 1, 100, 3, 100).base(0, 19, 10, 0), false);
        BudgetKernel k = one(2, 1, 100, 3, 100);
        Check.due("as long as the period", k.base(0, 20, 10, 0), true);
        Check.due("its bound", k.task(0, 3), 20);
        Check.due("a cost above the period", new BudgetKernel().base(0, 1, 2, 0), false);
        Check.due("the greatest cost, the least period", new BudgetKernel().base(0, 1, 500, 0), false);
        // At 100: 90 + 10; at 101 a third piece of each would come.
        Check.due("up to 100", one(2, 1, 100, 3, 100).base(0, 2000, 90, 0), true);
        BudgetKernel over = one(2, 1, 100, 3, 100);
        Check.due("over 100", over.base(0, 2000, 91, 0), true);
        Check.due("its bound over 100", over.task(0, 3), 106);
        Check.due("over 100, and then over its period", one(2, 1, 100, 3, 100).base(0, 105, 91, 0), false);
        Check.due("a source that takes all", one(0, 1, 1, 1, 1).base(0, 2000, 1, 0), false);
        BudgetKernel tops = one(1, 1, 1, 1, 500);
        Check.due("top halves that take all", tops.base(0, 2000, 1, 0), false);
    }

    private static void tasksAbove() {
        BudgetKernel k = new BudgetKernel();
        k.base(0, 10, 4, 31);
        Check.due("6 beside 4 in 10", k.base(1, 10, 6, 30), true);
        Check.due("ceil(10, 10) is 1", k.task(1, 3), 10);
        BudgetKernel more = new BudgetKernel();
        more.base(0, 10, 4, 31);
        Check.due("7 beside 4 in 14: ceil(11, 10) is 2", more.base(1, 14, 7, 30), false);
        Check.due("7 beside 4 in 15", more.base(1, 15, 7, 30), true);
        Check.due("its bound", more.task(1, 3), 15);
        Check.due("the one above does not see the one below", more.task(0, 3), 4);
    }

    private static void allHaveOne() {
        BudgetKernel k = new BudgetKernel();
        Check.due("the lowest", k.base(0, 50, 20, 2), true);
        Check.due("the middle", k.base(1, 45, 20, 5), true);
        Check.due("bound of the lowest", k.task(0, 3), 40);
        Check.due("one above that leaves the lowest none", k.base(2, 100, 11, 9), false);
        Check.due("one between that leaves the lowest none", k.base(2, 100, 11, 3), false);
        Check.due("one below all that has none itself", k.base(2, 40, 1, 0), false);
        // At 46 the middle one comes a second time: 20 + 2 * 20 + 6 is over 50.
        Check.due("one above that is too long by 1", k.base(2, 100, 6, 9), false);
        Check.due("one above that leaves just enough", k.base(2, 100, 5, 9), true);
        Check.due("bound of the lowest with it", k.task(0, 3), 45);
        Check.due("bound of the middle with it", k.task(1, 3), 25);
        Check.due("its own", k.task(2, 3), 5);
        Check.dueThrow("there is no fourth", NoSuchElementException.class, () -> k.task(3, 3));
    }

    private static void sourcesWithoutABound() {
        Check.sentence("A source whose cost is not above its budget and whose distance is not below its period has the bound");
        Check.due("cost as the budget", one(0, 30, 500, 30, 500).bound(0), 30);
        Check.due("cost above the budget by 1", one(0, 30, 500, 29, 500).bound(0), -1);
        Check.due("cost below the budget by 1", one(0, 29, 500, 30, 500).bound(0), 29);
        Check.due("distance as the period", one(0, 1, 500, 1, 500).bound(0), 1);
        Check.due("distance below the period by 1", one(0, 1, 499, 1, 500).bound(0), -1);
        Check.due("distance above the period by 1", one(0, 1, 500, 1, 499).bound(0), 1);
        Check.due("both are 1", one(0, 1, 1, 1, 1).bound(0), 1);
    }

    private static void aSourcesBoundAndItsPeriod() {
        Check.sentence("the least R likewise with R = cost + for each source of higher priority"
                + " (ceil(R, period) + 1) * budget + for each source (ceil(R, distance) + 1) * top;"
                + " none, if that becomes greater than its period.");
        Check.due("as long as the period", one(3, 4, 10, 4, 10).bound(0), 10);
        Check.due("one longer than the period", one(3, 5, 10, 5, 10).bound(0), -1);
        Check.due("one longer, the distance far", one(3, 5, 2000, 5, 10).bound(0), -1);
        BudgetKernel k = one(0, 4, 10, 4, 10);
        k.source(1, 0, 30, 2000, 3, 10, 8);
        Check.due("as long as the period, below another", k.bound(0), 10);
        k.source(2, 0, 30, 2000, 30, 500, 6);
        Check.due("with one below it", k.bound(0), 10);
        k.source(3, 0, 30, 2000, 1, 500, 31);
        Check.due("with one more above it", k.bound(0), -1);
        BudgetKernel tops = one(0, 4, 10, 4, 10);
        tops.source(1, 3, 30, 10, 30, 500, 0);
        Check.due("with top halves of one below", tops.bound(0), 10);
        tops.source(2, 1, 30, 10, 30, 500, 1);
        Check.due("with more of them", tops.bound(0), -1);
        // 20 + 2 * 2 + (ceil(R, 7) + 1) * 3: at 24 ceil is 4 and 39 follows, at 39 it is 6: 45, at 45 it is 7: 48 stays.
        BudgetKernel steps = one(2, 20, 100, 20, 100);
        steps.source(1, 0, 1, 1, 3, 7, 9);
        Check.due("step by step", steps.bound(0), 48);
    }
}
