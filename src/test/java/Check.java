/** Compares answers with those that are due, and ends a test program with exit code 1 if one was wrong. */
final class Check {
    /** Calls on an object, for what they change. */
    interface Calls {
        void on(EchoRegistry registry);
    }

    private static int compared = 0;
    private static int wrong = 0;

    private Check() {
    }

    static void due(String call, long got, long want) {
        same(call, Long.toString(got), Long.toString(want));
    }

    static void due(String call, boolean got, boolean want) {
        same(call, Boolean.toString(got), Boolean.toString(want));
    }

    static void same(String call, String got, String want) {
        compared++;
        if (!got.equals(want)) {
            wrong++;
            System.out.println(call + " answered " + got + ", due is " + want);
        }
    }

    /** The call, behind these calls on a new object, throws just this exception and changes nothing. */
    static void refused(String call, Class<? extends RuntimeException> due, Calls before, Calls refused) {
        EchoRegistry asked = made(before);
        same(call, thrownBy(asked, refused), due.getName());
        same("what stands behind " + call, Snapshot.of(asked), Snapshot.of(made(before)));
    }

    static void noSuch(String call, Calls before, Calls refused) {
        refused(call, IndexOutOfBoundsException.class, before, refused);
    }

    static void outOfRange(String call, Calls before, Calls refused) {
        refused(call, IllegalArgumentException.class, before, refused);
    }

    static void notNow(String call, Calls before, Calls refused) {
        refused(call, IllegalStateException.class, before, refused);
    }

    static EchoRegistry made(Calls before) {
        EchoRegistry registry = new EchoRegistry();
        before.on(registry);
        return registry;
    }

    private static String thrownBy(EchoRegistry registry, Calls calls) {
        try {
            calls.on(registry);
            return "nothing";
        } catch (RuntimeException e) {
            return e.getClass().getName();
        }
    }

    static void end(String suite) {
        System.out.println(suite + ": " + compared + " answers compared, " + wrong + " wrong");
        if (wrong != 0 || compared == 0) {
            System.exit(1);
        }
    }
}
