/** What the tests share: counts the answers that are not as due, and ends with 1 if there was one. */
final class Check {
    private static int wrong = 0;
    private static int asked = 0;

    private Check() {
    }

    static void due(String call, long got, long want) {
        asked++;
        if (got != want) {
            wrong++;
            System.out.println(call + " answered " + got + ", due is " + want);
        }
    }

    static void due(String call, boolean got, boolean want) {
        due(call, got ? 1 : 0, want ? 1 : 0);
    }

    static void due(String call, String got, String want) {
        asked++;
        if (!got.equals(want)) {
            wrong++;
            System.out.println(call + " answered " + got + ", due is " + want);
        }
    }

    /** The call must throw just this class, not one below it. */
    static void dueThrow(String call, Class<? extends RuntimeException> want, Runnable run) {
        due(call, thrownBy(run), want.getSimpleName());
    }

    static void dueNoThrow(String call, Runnable run) {
        due(call, thrownBy(run), "nothing");
    }

    private static String thrownBy(Runnable run) {
        try {
            run.run();
            return "nothing";
        } catch (RuntimeException e) {
            return e.getClass().getSimpleName();
        }
    }

    /** All that can be asked of a kernel without changing it, as one text. */
    static String state(BudgetKernel k) {
        StringBuilder text = new StringBuilder();
        text.append("time ").append(k.time());
        for (int i = 0; i < 6; i++) {
            for (int what = 0; what <= 12; what++) {
                final int source = i;
                final int of = what;
                text.append(' ').append(answer(() -> k.about(source, of)));
            }
            final int each = i;
            text.append(" bound ").append(answer(() -> k.bound(each)));
            text.append(" used ").append(answer(() -> k.used(each, true, Math.max(0, k.time() - 1000), k.time())));
            for (int what = 0; what <= 3; what++) {
                final int of = what;
                text.append(' ').append(answer(() -> k.task(each, of)));
            }
        }
        text.append(" floor ").append(k.floor(100));
        return text.toString();
    }

    /** A call's answer, or the name of what it threw. */
    static String answer(java.util.function.Supplier<Object> call) {
        try {
            return String.valueOf(call.get());
        } catch (RuntimeException e) {
            return "throws." + e.getClass().getSimpleName();
        }
    }

    static void end() {
        System.out.println(wrong == 0 ? asked + " answers are as due" : wrong + " answers are not as due");
        if (wrong != 0 || asked == 0) {
            System.exit(1);
        }
    }
}
