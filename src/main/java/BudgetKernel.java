import java.util.NoSuchElementException;

/**
 * A kernel that lets events interrupt only as far as budgets go. The numbered promises that it
 * keeps are in the project's document; README.md says how to use it.
 */
public final class BudgetKernel {
    private static final int SOURCE_COUNT = 6;
    private static final int TASK_COUNT = 6;
    private static final int MAX_TOP = 3;
    private static final int MAX_COST = 30;
    private static final int MAX_DISTANCE = 2000;
    private static final int MAX_BUDGET = 30;
    private static final int MAX_PERIOD = 500;
    private static final int MAX_PRIORITY = 31;
    private static final int MAX_TASK_PERIOD = 2000;
    private static final int MAX_TASK_COST = 500;
    private static final int MAX_TICKS = 500;
    private static final int MAX_SPAN = 100000;
    private static final int QUEUE_SPACE = 32;
    private static final int MASK_ABOVE = 24;
    private static final int UNMASK_AT = 8;
    private static final int PIECE_SPACE = 16;
    private static final int HISTORY = 1000;
    private static final int IDLE = 0;
    private static final int TOP_RAN = 10;
    private static final int HANDLER_RAN = 20;
    private static final int TASK_RAN = 30;
    private static final int NONE = -1;

    private final Source[] sources;
    private final BaseTask[] tasks;
    /** The sources of the open top halves, in the order of their events. */
    private final Row openTops;
    /** What ran in the last HISTORY ticks; tick t stands at t modulo HISTORY. */
    private final byte[] ran;
    private int firstTopDone;
    private int now;

    public BudgetKernel() {
        sources = new Source[SOURCE_COUNT];
        for (int i = 0; i < SOURCE_COUNT; i++) {
            sources[i] = new Source();
        }
        tasks = new BaseTask[TASK_COUNT];
        for (int i = 0; i < TASK_COUNT; i++) {
            tasks[i] = new BaseTask();
        }
        // No handler runs while a top half is open, so each open one's event is still queued.
        openTops = new Row(SOURCE_COUNT * QUEUE_SPACE);
        ran = new byte[HISTORY];
        firstTopDone = 0;
        now = 0;
    }

    public void source(int source, int top, int cost, int distance, int budget, int period, int priority)
            throws NoSuchElementException, IllegalArgumentException, IllegalStateException {
        if (!within(source, 0, SOURCE_COUNT - 1)) {
            throw new NoSuchElementException();
        }
        if (!within(top, 0, MAX_TOP) || !within(cost, 1, MAX_COST)
                || !within(distance, 1, MAX_DISTANCE) || !within(budget, 1, MAX_BUDGET)
                || !within(period, 1, MAX_PERIOD) || !within(priority, 0, MAX_PRIORITY)) {
            throw new IllegalArgumentException();
        }
        Source named = sources[source];
        if (named.told || sourceHasPriority(priority)) {
            throw new IllegalStateException();
        }
        named.tell(top, cost, distance, budget, period, priority);
        if (!tasksAdmitted()) {
            named.told = false;
            throw new IllegalStateException();
        }
        named.fillBudget();
    }

    public boolean base(int task, int period, int cost, int priority)
            throws NoSuchElementException, IllegalArgumentException, IllegalStateException {
        if (!within(task, 0, TASK_COUNT - 1)) {
            throw new NoSuchElementException();
        }
        if (!within(period, 1, MAX_TASK_PERIOD) || !within(cost, 1, MAX_TASK_COST)
                || !within(priority, 0, MAX_PRIORITY)) {
            throw new IllegalArgumentException();
        }
        BaseTask named = tasks[task];
        if (named.told || taskHasPriority(priority)) {
            throw new IllegalStateException();
        }
        named.tell(period, cost, priority, now);
        named.told = tasksAdmitted();
        return named.told;
    }

    public int event(int source) throws NoSuchElementException {
        Source named = toldSource(source);
        if (!named.take(now)) {
            return 0;
        }
        if (named.top > 0) {
            openTops.add(source);
        }
        return 1;
    }

    public int tick() {
        beginPeriods();
        int what = runOne();
        // floorMod, as the index must hold even after so many ticks that the time wraps around.
        ran[Math.floorMod(now, HISTORY)] = (byte) what;
        now++;
        giveBack();
        return what;
    }

    public int ticks(int n) throws IllegalArgumentException {
        if (!within(n, 0, MAX_TICKS)) {
            throw new IllegalArgumentException();
        }
        int busy = 0;
        for (int i = 0; i < n; i++) {
            if (tick() != IDLE) {
                busy++;
            }
        }
        return busy;
    }

    public int about(int source, int what)
            throws NoSuchElementException, IndexOutOfBoundsException {
        Source named = toldSource(source);
        switch (what) {
            case 0: return named.taken;
            case 1: return named.handled;
            case 2: return named.lost;
            case 3: return named.queue.size;
            case 4: return named.masked ? 1 : 0;
            case 5: return named.timesMasked;
            case 6: return named.leftSince.size;
            case 7: return named.pieces.size;
            case 8: return named.pieces.nextTime();
            case 9: return named.pieces.nextAmount();
            case 10: return named.greatestDelay;
            case 11: return named.firstDone;
            case 12: return named.queue.size > 0 ? named.busySince : NONE;
            default: throw new IndexOutOfBoundsException();
        }
    }

    public int task(int task, int what) throws NoSuchElementException, IndexOutOfBoundsException {
        if (!within(task, 0, TASK_COUNT - 1) || !tasks[task].told) {
            throw new NoSuchElementException();
        }
        BaseTask named = tasks[task];
        switch (what) {
            case 0: return named.left;
            case 1: return named.missed;
            case 2: return named.done;
            case 3: return taskBound(named);
            default: throw new IndexOutOfBoundsException();
        }
    }

    public int bound(int source) throws NoSuchElementException {
        return sourceBound(toldSource(source));
    }

    public int used(int source, boolean tops, int from, int to)
            throws NoSuchElementException, IndexOutOfBoundsException {
        toldSource(source);
        if (from < 0 || from > to || to > now || now - from > HISTORY) {
            throw new IndexOutOfBoundsException();
        }
        int count = 0;
        for (int t = from; t < to; t++) {
            int what = ran[t % HISTORY];
            if (what == HANDLER_RAN + source || tops && what == TOP_RAN + source) {
                count++;
            }
        }
        return count;
    }

    public int floor(int span) throws IllegalArgumentException {
        if (!within(span, 0, MAX_SPAN)) {
            throw new IllegalArgumentException();
        }
        return Math.max(0, span - handlersTake(NONE, span) - topsTake(span));
    }

    public int time() {
        return now;
    }

    private static boolean within(int number, int least, int greatest) {
        return least <= number && number <= greatest;
    }

    private Source toldSource(int source) {
        if (!within(source, 0, SOURCE_COUNT - 1) || !sources[source].told) {
            throw new NoSuchElementException();
        }
        return sources[source];
    }

    private boolean sourceHasPriority(int priority) {
        for (int i = 0; i < SOURCE_COUNT; i++) {
            if (sources[i].told && sources[i].priority == priority) {
                return true;
            }
        }
        return false;
    }

    private boolean taskHasPriority(int priority) {
        for (int i = 0; i < TASK_COUNT; i++) {
            if (tasks[i].told && tasks[i].priority == priority) {
                return true;
            }
        }
        return false;
    }

    private void beginPeriods() {
        for (int i = 0; i < TASK_COUNT; i++) {
            if (tasks[i].told) {
                tasks[i].beginIfDue(now);
            }
        }
    }

    /** What was given back when this time was reached is so already: only a tick moves the time. */
    private void giveBack() {
        for (int i = 0; i < SOURCE_COUNT; i++) {
            if (sources[i].told) {
                sources[i].giveBack(now);
            }
        }
    }

    private int runOne() {
        if (openTops.size > 0) {
            return TOP_RAN + runTop();
        }
        int source = highestReadySource();
        if (source != NONE) {
            sources[source].runHandler(now);
            return HANDLER_RAN + source;
        }
        int task = highestTaskWithWork();
        if (task != NONE) {
            tasks[task].work();
            return TASK_RAN + task;
        }
        return IDLE;
    }

    private int runTop() {
        int source = openTops.first();
        firstTopDone++;
        if (firstTopDone >= sources[source].top) {
            openTops.removeFirst();
            firstTopDone = 0;
        }
        return source;
    }

    private int highestReadySource() {
        int highest = NONE;
        int priority = NONE;
        for (int i = 0; i < SOURCE_COUNT; i++) {
            if (sources[i].told && sources[i].ready() && sources[i].priority > priority) {
                highest = i;
                priority = sources[i].priority;
            }
        }
        return highest;
    }

    private int highestTaskWithWork() {
        int highest = NONE;
        int priority = NONE;
        for (int i = 0; i < TASK_COUNT; i++) {
            if (tasks[i].told && tasks[i].left > 0 && tasks[i].priority > priority) {
                highest = i;
                priority = tasks[i].priority;
            }
        }
        return highest;
    }

    private boolean tasksAdmitted() {
        for (int i = 0; i < TASK_COUNT; i++) {
            if (tasks[i].told && taskBound(tasks[i]) == NONE) {
                return false;
            }
        }
        return true;
    }

    private int taskBound(BaseTask of) {
        return leastBound(of.cost, of.period, NONE, of.priority);
    }

    private int sourceBound(Source of) {
        if (of.cost > of.budget || of.distance < of.period) {
            return NONE;
        }
        return leastBound(of.cost, of.period, of.priority, MAX_PRIORITY);
    }

    /** With the handlers and base tasks above these priorities: NONE counts all, MAX_PRIORITY none. */
    private int leastBound(int cost, int period, int sourcesAbove, int tasksAbove) {
        int r = 1;
        // Each step but the last makes r greater, so it is past the period after so many steps.
        for (int step = 0; step <= period; step++) {
            int next = cost + handlersTake(sourcesAbove, r) + topsTake(r) + tasksTake(tasksAbove, r);
            if (next > period) {
                return NONE;
            }
            if (next == r) {
                return r;
            }
            r = next;
        }
        return NONE;
    }

    private int handlersTake(int abovePriority, int span) {
        int sum = 0;
        for (int i = 0; i < SOURCE_COUNT; i++) {
            if (sources[i].told && sources[i].priority > abovePriority) {
                sum += (ceil(span, sources[i].period) + 1) * sources[i].budget;
            }
        }
        return sum;
    }

    private int topsTake(int span) {
        int sum = 0;
        for (int i = 0; i < SOURCE_COUNT; i++) {
            if (sources[i].told) {
                sum += (ceil(span, sources[i].distance) + 1) * sources[i].top;
            }
        }
        return sum;
    }

    private int tasksTake(int abovePriority, int span) {
        int sum = 0;
        for (int i = 0; i < TASK_COUNT; i++) {
            if (tasks[i].told && tasks[i].priority > abovePriority) {
                sum += ceil(span, tasks[i].period) * tasks[i].cost;
            }
        }
        return sum;
    }

    /** The periods and distances of what was told are 1 at least. */
    private static int ceil(int a, int b) {
        return (a + b - 1) / b;
    }

    /** Where events come from, with the budget of their handler. */
    private static final class Source {
        private final Row queue;
        /** Since when each unit is left: the first is the earliest, as what is given back is so now. */
        private final Row leftSince;
        private final Pieces pieces;
        private boolean told;
        private int top;
        private int cost;
        private int distance;
        private int budget;
        private int period;
        private int priority;
        private boolean masked;
        private int taken;
        private int handled;
        private int lost;
        private int timesMasked;
        private int greatestDelay;
        private int firstDone;
        private int busySince;

        Source() {
            queue = new Row(QUEUE_SPACE);
            leftSince = new Row(MAX_BUDGET);
            pieces = new Pieces();
        }

        void tell(int newTop, int newCost, int newDistance, int newBudget, int newPeriod, int newPriority) {
            told = true;
            top = newTop;
            cost = newCost;
            distance = newDistance;
            budget = newBudget;
            period = newPeriod;
            priority = newPriority;
        }

        void fillBudget() {
            for (int i = 0; i < budget; i++) {
                leftSince.add(0);
            }
        }

        boolean take(int now) {
            if (masked || queue.size >= QUEUE_SPACE) {
                lost++;
                return false;
            }
            if (queue.size == 0) {
                busySince = now;
            }
            queue.add(now);
            taken++;
            if (queue.size > MASK_ABOVE) {
                masked = true;
                timesMasked++;
            }
            return true;
        }

        boolean ready() {
            return queue.size > 0 && leftSince.size > 0;
        }

        void runHandler(int now) {
            spendUnit(now);
            firstDone++;
            if (firstDone >= cost) {
                finishFirst(now + 1);
            }
        }

        private void spendUnit(int now) {
            int since = Math.max(leftSince.first(), busySince);
            if (now - since >= period) {
                since = now;
            }
            leftSince.removeFirst();
            pieces.add(since + period);
        }

        private void finishFirst(int at) {
            greatestDelay = Math.max(greatestDelay, at - queue.first());
            queue.removeFirst();
            firstDone = 0;
            handled++;
            if (queue.size <= UNMASK_AT) {
                masked = false;
            }
        }

        void giveBack(int now) {
            int units = pieces.removeUpTo(now);
            for (int i = 0; i < units; i++) {
                leftSince.add(now);
            }
        }
    }

    /** What runs when no source does. */
    private static final class BaseTask {
        private boolean told;
        private int period;
        private int cost;
        private int priority;
        private int begin;
        private int left;
        private int missed;
        private int done;

        void tell(int newPeriod, int newCost, int newPriority, int newBegin) {
            told = true;
            period = newPeriod;
            cost = newCost;
            priority = newPriority;
            begin = newBegin;
        }

        void beginIfDue(int now) {
            if ((now - begin) % period != 0) {
                return;
            }
            if (left > 0) {
                missed++;
            }
            left = cost;
        }

        void work() {
            left--;
            if (left == 0) {
                done++;
            }
        }
    }

    /** The spent units of a source, in pieces, in the order in which they came. */
    private static final class Pieces {
        private final int[] times;
        private final int[] amounts;
        private int size;

        Pieces() {
            times = new int[PIECE_SPACE];
            amounts = new int[PIECE_SPACE];
        }

        void add(int time) {
            int last = size - 1;
            if (last >= 0 && (times[last] == time || size >= PIECE_SPACE)) {
                amounts[last]++;
                times[last] = Math.max(times[last], time);
                return;
            }
            times[size] = time;
            amounts[size] = 1;
            size++;
        }

        /** Takes the pieces out whose time is this one or was, and answers how many units they had. */
        int removeUpTo(int time) {
            int units = 0;
            int kept = 0;
            for (int i = 0; i < size; i++) {
                if (times[i] <= time) {
                    units += amounts[i];
                } else {
                    times[kept] = times[i];
                    amounts[kept] = amounts[i];
                    kept++;
                }
            }
            size = kept;
            return units;
        }

        int nextTime() {
            return size > 0 ? times[next()] : NONE;
        }

        int nextAmount() {
            return size > 0 ? amounts[next()] : 0;
        }

        private int next() {
            int least = 0;
            for (int i = 1; i < size; i++) {
                if (times[i] < times[least]) {
                    least = i;
                }
            }
            return least;
        }
    }

    /** Numbers in the order in which they came, in a space that is made once. */
    private static final class Row {
        private final int[] items;
        private int head;
        private int size;

        Row(int space) {
            items = new int[space];
        }

        /** What has no space is left out; the kernel's limits never let that happen. */
        void add(int item) {
            if (size < items.length) {
                items[(head + size) % items.length] = item;
                size++;
            }
        }

        int first() {
            return items[head];
        }

        void removeFirst() {
            if (size > 0) {
                head = (head + 1) % items.length;
                size--;
            }
        }
    }
}
