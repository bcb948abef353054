import java.lang.reflect.InvocationTargetException;
import java.lang.reflect.Method;
import java.util.Arrays;

/**
 * All promises: runs of 512 calls, the same at each time, on the class and on the Model. Each call has to answer, or to
 * throw, the same on both. Arguments lie mostly in their ranges, often at the ends of them, at times just outside.
 */
public final class ModelTest {
    private static final int RUNS = 600;
    private static final int CALLS = 512;

    /** Each method of the face with the range of each argument; U is the number of a unit, B a truth value. */
    private static final String[] FACE = {
        "product 0 5 1 9999 0 3", "recall 0 5 B", "agree 0 3 0 3 0 100", "limit 0 3 0 99999", "set 0 4 0 36",
        "receive 0 5 0 3", "test U 0 3 0 9", "send U 1 4", "pass 1 30", "claim U", "closePeriod", "append 33 126",
        "clearBuffer", "firstError", "receiveAll", "undo", "unit U 0 13", "productOf 0 5 0 5", "vendor 0 3 0 9",
        "inWorkshop 0 19", "waiting 0 19", "count 0 13", "setting 0 4", "whyNot U 1 4", "ifRepaired U 0 2",
        "bestRoute U", "ifClosed", "claimable U", "workDays", "backShare", "digest"};
    /** How often each is called; a run multiplies some of these. */
    private static final int[] WEIGHTS = {
        4, 3, 3, 5, 4,
        3, 12, 16, 3, 10, 2, 1,
        1, 2, 1, 4, 2, 2, 2,
        2, 2, 2, 1, 2, 2,
        2, 2, 2, 2, 2, 8};

    private static final Checks checks = new Checks();

    private final ReturnGrades desk = new ReturnGrades();
    private final Model model = new Model();
    private final int[] weights = WEIGHTS.clone();
    private final String run;
    private long seed;
    private int calls;

    private ModelTest(int run) {
        this.run = "run " + run;
        seed = run * 104729L + 71;
    }

    public static void main(String[] args) throws ReflectiveOperationException {
        for (int run = 0; run < RUNS; run++) {
            new ModelTest(run).go(run);
        }
        checks.end();
    }

    private int below(int bound) {
        seed = seed * 6364136223846793005L + 1442695040888963407L;
        return (int) ((seed >>> 33) % bound);
    }

    private void go(int number) throws ReflectiveOperationException {
        for (int i = 0; i < weights.length; i++) {
            weights[i] *= below(6) == 0 ? 6 : 1;
        }
        if (number % 10 == 0) {
            for (int i = 0; i < 66; i++) {
                call("pass", 30);
            }
        }
        if (number % 3 != 0) {
            for (int vendor = 0; vendor < 4; vendor++) {
                call("limit", vendor, below(300));
            }
        }
        while (calls < CALLS - 76) {
            if (below(model.count(0) < 10 ? 15 : 150) == 0) {
                typeReturns();
            } else {
                callAny();
            }
        }
        for (int left = 0; left < 7; left++) {
            call("undo");
            call("digest");
        }
    }

    /** Types a text, a complete one mostly, and takes its units back. */
    private void typeReturns() throws ReflectiveOperationException {
        if (below(4) != 0) {
            call("clearBuffer");
        }
        StringBuilder text = new StringBuilder();
        int units = 1 + below(6);
        for (int unit = 0; unit < units; unit++) {
            text.append(unit == 0 ? "" : ";").append('p').append(below(6)).append('r').append(below(4));
            if (below(5) != 0) {
                int least = below(9);
                text.append(':');
                for (int test = 0; test < 4; test++) {
                    text.append(below(12) == 0 ? 0 : least + below(10 - least));
                }
            }
        }
        if (below(6) == 0) {
            text.setCharAt(below(text.length()), (char) (33 + below(94)));
        }
        for (int i = 0; i < text.length(); i++) {
            call("append", (int) text.charAt(i));
        }
        call("firstError");
        call("receiveAll");
    }

    private void callAny() throws ReflectiveOperationException {
        int at = below(Arrays.stream(weights).sum());
        int kind = 0;
        while (at >= weights[kind]) {
            at -= weights[kind];
            kind++;
        }
        String[] words = FACE[kind].split(" ");
        Object[] arguments = new Object[words.length];
        int count = 0;
        for (int i = 1; i < words.length; i++) {
            if (words[i].equals("B")) {
                arguments[count++] = below(3) == 0;
            } else if (words[i].equals("U")) {
                arguments[count++] = number(0, Math.max(0, model.count(0) - 1));
            } else {
                arguments[count++] = number(Integer.parseInt(words[i]), Integer.parseInt(words[i + 1]));
                i++;
            }
        }
        call(words[0], Arrays.copyOf(arguments, count));
    }

    private int number(int lowest, int highest) {
        switch (below(40)) {
            case 0: return lowest - 1;
            case 1: return highest + 1;
            case 2: return below(2) == 0 ? Integer.MIN_VALUE : Integer.MAX_VALUE;
            case 3: return lowest;
            case 4: return highest;
            case 5: case 6: case 7: case 8: case 9: case 10:
                return lowest + below(Math.min(highest - lowest + 1, 300));
            default: return lowest + below(highest - lowest + 1);
        }
    }

    private void call(String name, Object... arguments) throws ReflectiveOperationException {
        calls++;
        Class<?>[] types = new Class<?>[arguments.length];
        for (int i = 0; i < types.length; i++) {
            types[i] = arguments[i] instanceof Boolean ? boolean.class : int.class;
        }
        String due = answer(Model.class.getDeclaredMethod(name, types), model, arguments);
        String got = answer(ReturnGrades.class.getMethod(name, types), desk, arguments);
        checks.due(run + ", call " + calls + ", " + name + Arrays.toString(arguments), got, due);
    }

    private static String answer(Method method, Object on, Object[] arguments) throws IllegalAccessException {
        try {
            return method.invoke(on, arguments).toString();
        } catch (InvocationTargetException thrown) {
            return thrown.getCause().getClass().getSimpleName();
        }
    }
}
