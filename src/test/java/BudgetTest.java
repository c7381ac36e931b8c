/** The terms' budget: units left and spent, busy since, ready, given back. */
public final class BudgetTest {
    public static void main(String[] args) {
        unitsAtFirst();
        leftOrSpent();
        busySince();
        busyAgainAtOnce();
        ready();
        theEarliestUnit();
        theLaterOfBothTimes();
        busySinceNotTheFirstEvent();
        aPeriodOrMoreBefore();
        onePeriodAfter();
        allWhoseTimeItIs();
        leftSinceThen();
        Check.end();
    }

    private static BudgetKernel one(int cost, int budget, int period) {
        BudgetKernel k = new BudgetKernel();
        k.source(0, 0, cost, 1, budget, period, 7);
        return k;
    }

    /** Source 1 is above source 0 and keeps it from running for as many ticks as its cost. */
    private static BudgetKernel withBlocker(int cost, int budget, int period, int blocked) {
        BudgetKernel k = one(cost, budget, period);
        k.source(1, 0, blocked, 1, 30, 500, 8);
        return k;
    }

    private static void unitsAtFirst() {
        Check.sentence("ITS BUDGET is so many UNITS, each of which is LEFT since a time (0 at first), or spent.");
        for (int budget : new int[] {1, 2, 29, 30}) {
            Check.pieces("budget " + budget, one(1, budget, 10), 0, budget, 0, -1, 0);
        }
        BudgetKernel later = new BudgetKernel();
        later.ticks(500);
        later.source(0, 0, 2, 1, 3, 10, 7);
        Check.pieces("told at 500", later, 0, 3, 0, -1, 0);
        later.event(0);
        later.tick();
        Check.pieces("could be spent since 500", later, 0, 2, 1, 510, 1);
    }

    private static void leftOrSpent() {
        BudgetKernel k = one(30, 30, 500);
        k.event(0);
        for (int i = 1; i <= 30; i++) {
            k.tick();
            Check.pieces(i + " spent", k, 0, 30 - i, 1, 500, i);
        }
        Check.due("at 499", k.ticks(469), 0);
        Check.pieces("all spent", k, 0, 0, 1, 500, 30);
        k.tick();
        Check.pieces("all are back", k, 0, 30, 0, -1, 0);
    }

    private static void busySince() {
        Check.sentence("Its queue is BUSY since the time at which it came to be non-empty.");
        BudgetKernel k = one(2, 30, 500);
        Check.due("empty at first", k.about(0, 12), -1);
        k.event(0);
        Check.due("at time 0", k.about(0, 12), 0);
        k.tick();
        k.event(0);
        Check.due("a second event", k.about(0, 12), 0);
        k.ticks(2);
        Check.due("the first one is handled, the second is there", k.about(0, 12), 0);
        k.tick();
        Check.due("empty again", k.about(0, 12), -1);
        k.ticks(5);
        Check.due("empty since long", k.about(0, 12), -1);
        k.event(0);
        Check.due("at time 9", k.about(0, 12), 9);
    }

    private static void busyAgainAtOnce() {
        BudgetKernel k = one(1, 30, 500);
        k.event(0);
        k.tick();
        Check.due("empty at 1", k.about(0, 12), -1);
        k.event(0);
        Check.due("non-empty at 1", k.about(0, 12), 1);
        k.tick();
        Check.pieces("each of its own busy time", k, 0, 28, 2, 500, 1);
    }

    private static void ready() {
        Check.sentence("A source is READY, when its queue is not empty and a unit is left.");
        BudgetKernel k = one(1, 2, 10);
        k.source(1, 0, 1, 1, 30, 500, 3);
        Check.due("a base task", k.base(0, 2000, 500, 0), true);
        Check.ticks("units, but an empty queue", k, 30);
        Check.events(k, 0, 3);
        Check.ticks("two units", k, 20, 20);
        Check.due("an event is there", k.about(0, 3), 1);
        Check.due("and no unit", k.about(0, 6), 0);
        Check.ticks("not ready: the base task", k, 30);
        k.event(1);
        Check.ticks("not ready: the source below it, and the base task", k, 21, 30, 30, 30, 30, 30, 30);
        Check.due("at 11", k.time(), 11);
        Check.ticks("ready as the units of 11 are back", k, 20, 30);
    }

    /** Source 0 at 12: busy since 1, with a unit since 0 and one since 10. */
    private static BudgetKernel unitsOfTwoTimes() {
        BudgetKernel k = withBlocker(1, 2, 10, 11);
        k.event(0);
        Check.ticks("a unit that is back at 10", k, 20);
        Check.events(k, 0, 3);
        k.event(1);
        Check.sameTicks("the other one above", k, 11, 21);
        Check.pieces("both are left", k, 0, 2, 0, -1, 0);
        return k;
    }

    private static void theEarliestUnit() {
        Check.sentence("A tick t that its handler runs spends the unit that is left since the earliest time");
        BudgetKernel k = unitsOfTwoTimes();
        k.tick();
        Check.pieces("that since 0, older than a period", k, 0, 1, 1, 22, 1);
        k.tick();
        Check.pieces("then that since 10", k, 0, 0, 2, 20, 1);
    }

    private static void theLaterOfBothTimes() {
        Check.sentence("that could be spent since the later one of this time and of the one since which the queue is busy");
        BudgetKernel busy = withBlocker(1, 5, 20, 3);
        busy.ticks(5);
        busy.event(0);
        busy.event(1);
        busy.ticks(4);
        Check.pieces("left since 0, busy since 5", busy, 0, 4, 1, 25, 1);

        BudgetKernel left = one(3, 2, 10);
        left.event(0);
        left.ticks(10);
        Check.pieces("at 10 both are back", left, 0, 2, 0, -1, 0);
        left.tick();
        Check.pieces("left since 10, busy since 0", left, 0, 1, 1, 20, 1);

        BudgetKernel both = one(1, 1, 10);
        both.event(0);
        both.ticks(10);
        both.event(0);
        both.tick();
        Check.pieces("left since 10, busy since 10", both, 0, 0, 1, 20, 1);
    }

    private static void busySinceNotTheFirstEvent() {
        BudgetKernel k = one(2, 30, 50);
        k.event(0);
        k.tick();
        k.event(0);
        k.ticks(3);
        Check.pieces("the event of time 1 in the time busy since 0", k, 0, 26, 1, 50, 4);
    }

    private static void aPeriodOrMoreBefore() {
        Check.sentence("or, if that is a period or more before t, since t");
        int period = 12;
        for (int wait = 10; wait <= 14; wait++) {
            BudgetKernel k = withBlocker(2, 5, period, wait);
            k.event(0);
            k.event(1);
            k.ticks(wait);
            Check.ticks("waited " + wait, k, 20);
            if (wait == period - 1) {
                Check.pieces("since 0, back at 12, which is now", k, 0, 5, 0, -1, 0);
            } else {
                int since = wait < period ? 0 : wait;
                Check.pieces("waited " + wait, k, 0, 4, 1, since + period, 1);
            }
        }
        BudgetKernel k = withBlocker(2, 5, 1, 2);
        k.event(0);
        k.event(1);
        k.ticks(3);
        Check.pieces("period 1: each unit is back at once", k, 0, 5, 0, -1, 0);
    }

    private static void onePeriodAfter() {
        Check.sentence("it comes into a PIECE, which is GIVEN BACK one period after it could be spent.");
        for (int period : new int[] {2, 3, 499, 500}) {
            BudgetKernel k = one(1, 1, period);
            k.ticks(7);
            k.event(0);
            Check.ticks("period " + period, k, 20);
            k.ticks(period - 2);
            Check.due("one tick before", k.time(), 7 + period - 1);
            Check.pieces("one tick before", k, 0, 0, 1, 7 + period, 1);
            k.tick();
            Check.pieces("one period after", k, 0, 1, 0, -1, 0);
        }
        BudgetKernel least = one(1, 1, 1);
        least.event(0);
        Check.ticks("period 1", least, 20);
        Check.pieces("period 1", least, 0, 1, 0, -1, 0);
    }

    /** Pieces of 22 and 20 and, behind them, one of 22 again. */
    private static void allWhoseTimeItIs() {
        Check.sentence("When a time is reached, before all else, all pieces whose time it is, or was, are given back");
        BudgetKernel k = withBlocker(1, 4, 10, 1);
        k.event(0);
        Check.ticks("one that is back at 10", k, 20, 0);
        Check.events(k, 0, 6);
        Check.ticks("two that are back at 12", k, 20, 20);
        Check.events(k, 1, 8);
        Check.sameTicks("the other one above, till 12", k, 8, 21);
        Check.pieces("one since 0, one since 10, two since 12", k, 0, 4, 0, -1, 0);
        Check.ticks("all four", k, 20, 20, 20, 20, 0, 0, 0);
        Check.pieces("22, 20, 22", k, 0, 0, 3, 20, 1);
        k.tick();
        Check.pieces("at 20", k, 0, 1, 2, 22, 1);
        k.tick();
        Check.pieces("at 21", k, 0, 1, 2, 22, 1);
        k.tick();
        Check.pieces("at 22", k, 0, 4, 0, -1, 0);
        Check.due("nothing more", k.ticks(100), 0);
        Check.pieces("none too many", k, 0, 4, 0, -1, 0);
    }

    private static void leftSinceThen() {
        Check.sentence("their units are left since then.");
        BudgetKernel k = one(9, 3, 10);
        k.ticks(4);
        k.event(0);
        Check.ticks("three units since 4", k, 20, 20, 20, 0);
        k.ticks(6);
        Check.pieces("back at 14", k, 0, 3, 0, -1, 0);
        k.tick();
        Check.pieces("left since 14", k, 0, 2, 1, 24, 1);
        k.ticks(9);
        Check.pieces("back at 24", k, 0, 3, 0, -1, 0);
        k.ticks(3);
        Check.pieces("left since 24", k, 0, 0, 1, 34, 3);
        Check.due("handled", k.about(0, 1), 1);
    }
}
