/** Compares answers with those that are due, and ends a test program with exit code 1 if one was wrong. */
final class Check {
    /** Calls on an object, for what they change. */
    interface Calls {
        void on(EchoRegistry registry);
    }

    private static int compared = 0;
    private static int wrong = 0;

    private Check() {
    }

    static void due(String call, long got, long want) {
        same(call, Long.toString(got), Long.toString(want));
    }

    static void due(String call, boolean got, boolean want) {
        same(call, Boolean.toString(got), Boolean.toString(want));
    }

    static void same(String call, String got, String want) {
        compared++;
        if (!got.equals(want)) {
            wrong++;
            System.out.println(call + " answered " + got + ", due is " + want);
        }
    }

    /** The title at the cell has these signs, none behind them; no signs are due for a cell in no shape. */
    static void title(EchoRegistry x, int cell, String due) {
        StringBuilder text = new StringBuilder();
        for (int place = 0; place < due.length(); place++) {
            int sign = x.titleAt(cell, place);
            text.append(sign == EchoRegistry.NONE ? "?" : Character.toString(sign));
        }
        same("title at " + cell, text.toString(), due);
        due("behind the title at " + cell, x.titleAt(cell, due.length()), EchoRegistry.NONE);
        due("far behind the title at " + cell, x.titleAt(cell, Integer.MAX_VALUE), EchoRegistry.NONE);
    }

    /** The finder of the cell, both by the shapes that are kept and by soundings. */
    static void finder(EchoRegistry x, int cell, int due) {
        due("finder of " + cell, x.finder(cell), due);
        due("finder by soundings of " + cell, x.finderBySoundings(cell), due);
    }

    /** The call, behind these calls on a new object, throws just this exception and changes nothing. */
    static void refused(String call, Class<? extends RuntimeException> due, Calls before, Calls refused) {
        same(call, thrownBy(made(before), refused), due.getName());
        same("what stands behind " + call, Snapshot.of(() -> asked(before, refused)), Snapshot.of(() -> made(before)));
    }

    static void noSuch(String call, Calls before, Calls refused) {
        refused(call, IndexOutOfBoundsException.class, before, refused);
    }

    static void outOfRange(String call, Calls before, Calls refused) {
        refused(call, IllegalArgumentException.class, before, refused);
    }

    static void notNow(String call, Calls before, Calls refused) {
        refused(call, IllegalStateException.class, before, refused);
    }

    static EchoRegistry made(Calls before) {
        EchoRegistry registry = new EchoRegistry();
        before.on(registry);
        return registry;
    }

    private static EchoRegistry asked(Calls before, Calls refused) {
        EchoRegistry registry = made(before);
        thrownBy(registry, refused);
        return registry;
    }

    private static String thrownBy(EchoRegistry registry, Calls calls) {
        try {
            calls.on(registry);
            return "nothing";
        } catch (RuntimeException e) {
            return e.getClass().getName();
        }
    }

    static void end(String suite) {
        System.out.println(suite + ": " + compared + " answers compared, " + wrong + " wrong");
        if (wrong != 0 || compared == 0) {
            System.exit(1);
        }
    }
}
