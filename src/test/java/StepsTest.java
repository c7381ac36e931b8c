/** The terms' tick: its three steps, and what goes before what. */
public final class StepsTest {
    public static void main(String[] args) {
        givenBackInTheFirstStep();
        begins();
        theShortestAndTheLongestPeriod();
        missed();
        dropped();
        notMissedWhenDoneInTheLastTick();
        theFirstTopHalf();
        theHighestReady();
        theFirstEvent();
        delays();
        theHighestTask();
        nothing();
        givenBackInTheLastStep();
        Check.end();
    }

    /** What is given back at t runs in tick t, before a source below it and a base task that begins at t. */
    private static void givenBackInTheFirstStep() {
        Check.sentence("A TICK at time t: 1. what is given back at t");
        BudgetKernel k = new BudgetKernel();
        k.source(0, 0, 3, 100, 1, 4, 9);
        k.source(1, 0, 5, 100, 5, 100, 8);
        Check.due("a base task", k.base(0, 1000, 2, 0), true);
        k.event(0);
        k.event(1);
        Check.ticks("the higher one has a unit at 0, 4 and 8", k, 20, 21, 21, 21, 20, 21, 21, 30, 20, 30, 0);
    }

    private static void begins() {
        Check.sentence("base tasks whose period begins: at a task's begin and each period later");
        BudgetKernel k = new BudgetKernel();
        k.ticks(3);
        k.base(0, 4, 1, 0);
        Check.due("no work before a tick", k.task(0, 0), 0);
        k.ticks(0);
        Check.due("nor behind no ticks", k.task(0, 0), 0);
        Check.ticks("told at 3", k, 30, 0, 0, 0, 30, 0, 0, 0, 30, 0, 0, 0);
        k.base(1, 5, 1, 1);
        Check.due("told at 15", k.time(), 15);
        Check.ticks("both at 15, then each in its period", k, 31, 30, 0, 0, 30, 31, 0, 0, 30, 0, 31, 0, 30);
    }

    private static void theShortestAndTheLongestPeriod() {
        BudgetKernel least = new BudgetKernel();
        least.base(5, 1, 1, 0);
        Check.due("period 1: each tick", least.ticks(500), 500);
        Check.due("period 1: done", least.task(5, 2), 500);
        Check.due("period 1: missed", least.task(5, 1), 0);
        BudgetKernel most = new BudgetKernel();
        most.base(0, 2000, 500, 31);
        Check.due("period 2000, cost 500", most.ticks(500), 500);
        Check.due("done at 500", most.task(0, 2), 1);
        Check.due("till 1999", most.ticks(500) + most.ticks(500) + most.ticks(499), 0);
        Check.ticks("not at 1999, but at 2000", most, 0, 30);
        Check.due("work left", most.task(0, 0), 499);
    }

    /** At 20 so many ticks of the task's work are left, as so many top halves were in its way. */
    private static BudgetKernel leftAtTheBegin(int left) {
        BudgetKernel k = new BudgetKernel();
        k.source(0, 1, 1, 2000, 1, 500, 0);
        Check.due("admitted", k.base(0, 20, 3, 0), true);
        // 1 tick goes to the handler, the rest up to 20 to the task.
        Check.events(k, 0, 16 + left);
        k.ticks(20);
        Check.due("left at 20", k.task(0, 0), left);
        Check.due("missed at 20, before its tick", k.task(0, 1), 0);
        k.tick();
        return k;
    }

    private static void missed() {
        Check.sentence("if something of its work is left, it MISSED, and that is dropped; its work is its cost.");
        for (int left = 0; left <= 3; left++) {
            BudgetKernel k = leftAtTheBegin(left);
            Check.due(left + " left: missed", k.task(0, 1), left == 0 ? 0 : 1);
            Check.due(left + " left: done", k.task(0, 2), left == 0 ? 1 : 0);
        }
    }

    private static void dropped() {
        for (int left = 0; left <= 3; left++) {
            BudgetKernel k = leftAtTheBegin(left);
            Check.due(left + " left: work", k.task(0, 0), 2);
            Check.ticks(left + " left", k, 30, 30, 0);
            Check.due(left + " left: done in this period", k.task(0, 2), left == 0 ? 2 : 1);
            k.ticks(16);
            Check.due(left + " left: missed at the next", k.task(0, 1), left == 0 ? 0 : 1);
        }
    }

    private static void notMissedWhenDoneInTheLastTick() {
        BudgetKernel k = new BudgetKernel();
        Check.due("a task as long as its period", k.base(0, 7, 7, 0), true);
        Check.sameTicks("without a gap", k, 21, 30);
        Check.due("done", k.task(0, 2), 3);
        Check.due("missed", k.task(0, 1), 0);
    }

    private static void theFirstTopHalf() {
        Check.sentence("2. One of these runs: the first top half that is open: one tick less of it");
        BudgetKernel k = new BudgetKernel();
        k.source(0, 3, 1, 1, 5, 500, 0);
        k.source(1, 1, 2, 1, 5, 500, 31);
        k.event(0);
        k.tick();
        k.event(1);
        Check.ticks("the open one ends first, though it is lower", k, 10, 10, 11);
        k.event(0);
        Check.ticks("a lower one's top half before a higher handler", k, 10, 10, 10, 21);
        k.event(0);
        Check.ticks("in the midst of a handler", k, 10, 10, 10, 21, 20, 20, 20, 0);
    }

    private static void theHighestReady() {
        Check.sentence("otherwise, of the sources that are ready, the one with the highest priority");
        BudgetKernel k = new BudgetKernel();
        k.source(0, 0, 3, 1, 30, 500, 4);
        k.source(1, 0, 1, 1, 1, 10, 5);
        k.event(0);
        Check.ticks("alone", k, 20);
        k.event(1);
        k.event(1);
        Check.ticks("the higher one, as far as its budget goes", k, 21, 20, 20, 0);
        k.ticks(5);
        k.event(0);
        Check.ticks("the lower one, but at 11 the budget is back", k, 20, 21, 20, 20, 0);
    }

    private static void theFirstEvent() {
        Check.sentence("one tick of the cost of its first event (which is handled when that was all of it: at t + 1");
        BudgetKernel k = new BudgetKernel();
        k.source(0, 0, 3, 1, 30, 500, 4);
        Check.due("nothing of no event", k.about(0, 11), 0);
        Check.events(k, 0, 2);
        int[] done = {1, 2, 0, 1, 2, 0};
        int[] handled = {0, 0, 1, 1, 1, 2};
        for (int i = 0; i < 6; i++) {
            Check.ticks("two events", k, 20);
            Check.due("done at " + (i + 1), k.about(0, 11), done[i]);
            Check.due("handled at " + (i + 1), k.about(0, 1), handled[i]);
            Check.due("in the queue at " + (i + 1), k.about(0, 3), 2 - handled[i]);
        }
        BudgetKernel spread = new BudgetKernel();
        spread.source(0, 0, 3, 1, 1, 10, 4);
        spread.event(0);
        spread.ticks(10);
        Check.due("one unit at a time: at 10", spread.about(0, 11), 1);
        spread.ticks(10);
        Check.due("one unit at a time: at 20", spread.about(0, 11), 2);
        Check.ticks("the last unit", spread, 20);
        Check.due("handled at 21", spread.about(0, 1), 1);
        Check.due("nothing done of no event", spread.about(0, 11), 0);
    }

    private static void delays() {
        Check.sentence("its DELAY is t + 1 less its time, the event goes from the queue");
        BudgetKernel k = new BudgetKernel();
        k.source(0, 0, 1, 1, 30, 500, 4);
        Check.due("without one", k.about(0, 10), 0);
        k.ticks(9);
        k.event(0);
        Check.due("before it is handled", k.about(0, 10), 0);
        k.tick();
        Check.due("the least delay", k.about(0, 10), 1);
        Check.due("it is gone", k.about(0, 3), 0);
        Check.events(k, 0, 3);
        k.ticks(3);
        Check.due("the third of three", k.about(0, 10), 3);
        k.event(0);
        k.tick();
        Check.due("a shorter one leaves the greatest", k.about(0, 10), 3);
    }

    private static void theHighestTask() {
        Check.sentence("otherwise the base task with work left of the highest priority: one tick less");
        BudgetKernel k = new BudgetKernel();
        k.base(0, 100, 2, 0);
        k.base(1, 100, 1, 31);
        k.base(2, 100, 2, 30);
        k.source(0, 0, 1, 100, 1, 100, 0);
        Check.ticks("the highest", k, 31, 32);
        k.event(0);
        Check.ticks("a source of priority 0 is before them", k, 20, 32, 30);
        Check.due("one tick less", k.task(0, 0), 1);
        Check.due("not done", k.task(0, 2), 0);
        Check.ticks("the last tick", k, 30);
        Check.due("done", k.task(0, 2), 1);
    }

    private static void nothing() {
        Check.sentence("otherwise nothing.");
        BudgetKernel k = new BudgetKernel();
        Check.ticks("no source and no task", k, 0);
        k.source(0, 1, 2, 2000, 1, 500, 0);
        Check.ticks("a source without an event", k, 0);
        k.event(0);
        Check.ticks("an event without a unit", k, 10, 20, 0);
        k.base(0, 2000, 1, 0);
        Check.ticks("a task without work", k, 30, 0);
        Check.due("it moves the time all the same", k.time(), 7);
    }

    private static void givenBackInTheLastStep() {
        Check.sentence("3. time is t + 1, and what is given back at that time is.");
        BudgetKernel k = new BudgetKernel();
        k.source(0, 0, 3, 1, 1, 2, 0);
        k.event(0);
        Check.ticks("spent", k, 20);
        Check.pieces("at 1", k, 0, 0, 1, 2, 1);
        Check.ticks("nothing", k, 0);
        Check.pieces("at 2, before tick 2", k, 0, 1, 0, -1, 0);
        Check.due("time", k.time(), 2);
        Check.ticks("in tick 2", k, 20, 0, 20);
    }
}
