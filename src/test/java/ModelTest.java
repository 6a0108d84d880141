import java.lang.reflect.InvocationTargetException;
import java.lang.reflect.Method;
import java.lang.reflect.Modifier;
import java.util.Arrays;
import java.util.HashMap;
import java.util.Map;

/** Long runs of mixed calls, 512 on each object, whose answers are those of the Model. */
public final class ModelTest {
    private static final int RUNS = 500;
    private static final int CALLS = 512;

    private static final String[] NAMES = {
        "sound", "sweep", "shapes", "shapeOf", "size", "top", "nameOf", "titleAt", "name", "raise",
        "fill", "air", "rest", "longest", "claim", "renew", "advance", "minute", "finder", "finderBySoundings",
        "claims", "runs", "holds", "things", "shapeOfThing", "finderOfThing", "reward", "kept",
    };

    /** How often each call comes, in the order of the names: of all alike, of charts, of claims, of things. */
    private static final int[][] WEIGHTS = {
        {9, 5, 1, 2, 2, 2, 3, 4, 6, 6, 3, 1, 1, 1, 5, 3, 5, 1, 4, 4, 1, 2, 3, 1, 2, 2, 2, 1},
        {20, 9, 3, 5, 5, 5, 5, 6, 4, 1, 1, 1, 1, 1, 4, 1, 2, 1, 4, 4, 1, 1, 3, 1, 1, 1, 1, 1},
        {12, 4, 1, 1, 1, 1, 2, 2, 2, 1, 1, 1, 1, 1, 24, 9, 4, 1, 6, 6, 2, 6, 9, 1, 1, 1, 1, 1},
        {5, 2, 1, 1, 1, 1, 2, 2, 2, 24, 12, 3, 3, 3, 4, 1, 16, 1, 2, 2, 1, 1, 1, 2, 6, 6, 6, 3},
    };

    private static final int[] ODD = {
        -1, -2, 0, 1, 4, 5, 6, 9, 10, 11, 12, 13, 40, 59, 60, 61, 95, 96, 97, 14400, 14401, 100000, 100001,
        Integer.MAX_VALUE, Integer.MIN_VALUE,
    };

    private static final Map<String, Method> FACE = methodsOf(EchoRegistry.class);
    private static final Map<String, Method> DUE = methodsOf(Model.class);

    private static long seed;

    public static void main(String[] args) {
        for (int run = 0; run < RUNS; run++) {
            seed = 1 + run;
            oneRun(run);
        }
        Check.end("ModelTest");
    }

    /** A number from 0 to bound - 1, the same in every run of this program. */
    private static int pick(int bound) {
        seed = seed * 6364136223846793005L + 1442695040888963407L;
        return (int) ((seed >>> 33) % bound);
    }

    private static void oneRun(int run) {
        EchoRegistry x = new EchoRegistry();
        Model model = new Model();
        int[] weights = WEIGHTS[run % WEIGHTS.length];
        int columns = 1 + pick(12);
        int rows = 1 + pick(8);
        int pace = pick(3);
        for (int i = 0; i < CALLS; i++) {
            int call = pickCall(weights);
            int[] args = pickArguments(NAMES[call], rows, columns, pace);
            if (pick(25) == 0) {
                args[pick(4)] = ODD[pick(ODD.length)];
            }
            String told = "run " + run + ", call " + i + ": " + NAMES[call] + Arrays.toString(args);
            Check.same(told, answer(x, FACE.get(NAMES[call]), args), answer(model, DUE.get(NAMES[call]), args));
        }
    }

    private static int pickCall(int[] weights) {
        int sum = 0;
        for (int weight : weights) {
            sum += weight;
        }
        int rest = pick(sum);
        int call = 0;
        while (rest >= weights[call]) {
            rest -= weights[call];
            call++;
        }
        return call;
    }

    private static int pickCell(int rows, int columns) {
        return 12 * pick(rows) + pick(columns);
    }

    private static int pickMinutes(int pace) {
        switch (pace) {
            case 0:
                return 1 + pick(40);
            case 1:
                return 1 + pick(3000);
            default:
                return pick(4) == 0 ? 14400 - pick(2) : 1 + pick(100);
        }
    }

    private static int[] pickArguments(String call, int rows, int columns, int pace) {
        int cell = pickCell(rows, columns);
        switch (call) {
            case "sound":
                return new int[] {cell, pick(2) * pick(10), 0, 0};
            case "sweep":
                return new int[] {cell, 1 + pick(Math.max(1, 12 - cell % 12)), pick(2) * pick(10), 0};
            case "titleAt":
                return new int[] {cell, pick(9), 0, 0};
            case "name":
                return new int[] {pick(4), cell, 5 + pick(20), 1 + pick(3)};
            case "raise":
                return new int[] {pick(4), cell, 10 + pick(8), 1 + pick(pick(2) == 0 ? 40 : 100000)};
            case "fill", "air", "rest":
                return new int[] {pick(4), 0, 0, 0};
            case "longest":
                return new int[] {pick(4), pick(96), 0, 0};
            case "claim":
                return new int[] {pick(6), cell, 0, 0};
            case "renew", "runs", "holds":
                return new int[] {pick(pick(2) == 0 ? 4 : 42), 0, 0, 0};
            case "advance":
                return new int[] {pickMinutes(pace), 0, 0, 0};
            case "shapeOfThing", "finderOfThing":
                return new int[] {pick(pick(2) == 0 ? 4 : 62), 0, 0, 0};
            case "reward":
                return new int[] {pick(6), 0, 0, 0};
            default:
                return new int[] {cell, 0, 0, 0};
        }
    }

    private static Map<String, Method> methodsOf(Class<?> of) {
        Map<String, Method> methods = new HashMap<>();
        for (Method method : of.getDeclaredMethods()) {
            if (!Modifier.isPrivate(method.getModifiers())) {
                methods.put(method.getName(), method);
            }
        }
        return methods;
    }

    /** The answer as a text, or the name of the exception's class; what the call has no parameter for is left away. */
    private static String answer(Object of, Method method, int[] args) {
        Object[] taken = new Object[method.getParameterCount()];
        for (int i = 0; i < taken.length; i++) {
            taken[i] = args[i];
        }
        try {
            return method.invoke(of, taken).toString();
        } catch (InvocationTargetException e) {
            return e.getCause().getClass().getName();
        } catch (IllegalAccessException e) {
            return "a call that can't be made";
        }
    }
}
