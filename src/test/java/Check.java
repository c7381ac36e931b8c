/** What the tests share: counts the answers that are not as due, and ends with 1 if there was one. */
final class Check {
    private static int wrong = 0;
    private static int asked = 0;
    private static String sentence = "";
    private static int askedBefore = -1;

    private Check() {
    }

    /** The document's words that the answers asked for from here on stand for. */
    static void sentence(String words) {
        endSentence();
        sentence = words;
        askedBefore = asked;
    }

    /** A sentence that nothing was asked for has no test. */
    private static void endSentence() {
        if (asked == askedBefore) {
            tellWrong("nothing was asked for");
        }
    }

    private static void tellWrong(String what) {
        wrong++;
        System.out.println(sentence.isEmpty() ? what : "\"" + sentence + "\": " + what);
    }

    static void due(String call, long got, long want) {
        asked++;
        if (got != want) {
            tellWrong(call + " answered " + got + ", due is " + want);
        }
    }

    static void due(String call, boolean got, boolean want) {
        due(call, got ? 1 : 0, want ? 1 : 0);
    }

    static void due(String call, String got, String want) {
        asked++;
        if (!got.equals(want)) {
            tellWrong(call + " answered " + got + ", due is " + want);
        }
    }

    /** The call must throw just this class, not one below it. */
    static void dueThrow(String call, Class<? extends RuntimeException> want, Runnable run) {
        due(call, thrownBy(run), want.getSimpleName());
    }

    static void dueNoThrow(String call, Runnable run) {
        due(call, thrownBy(run), "nothing");
    }

    private static String thrownBy(Runnable run) {
        try {
            run.run();
            return "nothing";
        } catch (RuntimeException e) {
            return e.getClass().getSimpleName();
        }
    }

    /** What the next ticks answer, one by one. */
    static void ticks(String name, BudgetKernel k, int... want) {
        int from = k.time();
        for (int i = 0; i < want.length; i++) {
            due(name + ", tick " + (from + i), k.tick(), want[i]);
        }
    }

    /** The next ticks all answer the same. */
    static void sameTicks(String name, BudgetKernel k, int n, int want) {
        int from = k.time();
        for (int i = 0; i < n; i++) {
            due(name + ", tick " + (from + i), k.tick(), want);
        }
    }

    /** What about answers for 0, 1, 2 and so on. */
    static void abouts(String name, BudgetKernel k, int source, int... want) {
        for (int what = 0; what < want.length; what++) {
            due(name + ", what " + what, k.about(source, what), want[what]);
        }
    }

    static void pieces(String name, BudgetKernel k, int source, int units, int count, int time, int amount) {
        due(name + ": units left", k.about(source, 6), units);
        due(name + ": pieces", k.about(source, 7), count);
        due(name + ": time", k.about(source, 8), time);
        due(name + ": amount", k.about(source, 9), amount);
    }

    static void events(BudgetKernel k, int source, int n) {
        for (int i = 0; i < n; i++) {
            k.event(source);
        }
    }

    /** All that can be asked of a kernel without changing it, as one text. */
    static String state(BudgetKernel k) {
        StringBuilder text = new StringBuilder();
        text.append("time ").append(k.time());
        for (int i = 0; i < 6; i++) {
            for (int what = 0; what <= 12; what++) {
                final int source = i;
                final int of = what;
                text.append(' ').append(answer(() -> k.about(source, of)));
            }
            final int each = i;
            text.append(" bound ").append(answer(() -> k.bound(each)));
            text.append(" used ").append(answer(() -> k.used(each, true, Math.max(0, k.time() - 1000), k.time())));
            for (int what = 0; what <= 3; what++) {
                final int of = what;
                text.append(' ').append(answer(() -> k.task(each, of)));
            }
        }
        text.append(" floor ").append(k.floor(100));
        return text.toString();
    }

    /** A call's answer, or the name of what it threw. */
    static String answer(java.util.function.Supplier<Object> call) {
        try {
            return String.valueOf(call.get());
        } catch (RuntimeException e) {
            return "throws." + e.getClass().getSimpleName();
        }
    }

    static void end() {
        endSentence();
        System.out.println(wrong == 0 ? asked + " answers are as due" : wrong + " answers are not as due");
        if (wrong != 0 || asked == 0) {
            System.exit(1);
        }
    }
}
