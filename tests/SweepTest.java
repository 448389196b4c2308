import java.lang.reflect.InvocationTargetException;
import java.lang.reflect.Method;
import java.util.Arrays;
import java.util.List;

/**
 * All arguments next to all bounds: each call of the face that takes arguments is made with every pair of
 * edge values at every pair of its places, in several scenes, and must answer what the model answers. A call
 * that is a change is undone on both, so that the next one finds the scene again.
 */
final class SweepTest {
    private static final Check CHECK = new Check("SweepTest");
    private static final int CALLS = 500;
    private static final int[] EDGES = {Integer.MIN_VALUE, Integer.MIN_VALUE + 1, -11, -10, -9, -8, -2, -1, 0, 1, 2, 3, 4, 5, 6, 7,
        8, 9, 10, 11, 12, 13, 19, 20, 21, 22, 23, 24, 25, 98, 99, 100, 101, 998, 999, 1000, 1001, 99999, 100000, 999998, 999999,
        1000000, 1000001, Integer.MAX_VALUE - 1, Integer.MAX_VALUE};
    private static final String[] NAMES = {"flourPrice", "unitsOf", "lotsOf", "lotUnits", "lotPrice", "listPrice", "minutesOf",
        "amountOf", "standardCost", "loavesOf", "freeAt", "rateAt", "batchBread", "goodLoaves", "startOf", "ovenMinutes", "costOf",
        "lossOf", "gapOf", "kindAt", "gapSum", "priceGap", "useGap", "bakeObstacle", "lossIfBaked", "possibleLoaves", "bestWait",
        "addFlour", "addBread", "buy", "setRate", "bake", "sell", "waitMinutes", "save", "restore", "writeBatch", "outputByte"};
    private static final List<String> CHANGES =
            List.of("addFlour", "addBread", "buy", "setRate", "bake", "sell", "waitMinutes");
    private static final String[] AFTERWARDS = {"cash", "clock", "undoCount", "batchCount", "flourCount", "breadCount", "totalLoss"};

    private final String setup;
    private PennyBakery bakery;
    private Model model;
    private int calls;
    private int wrong;

    private SweepTest(String setup) {
        this.setup = setup;
    }

    public static void main(String[] args) throws Exception {
        String six = "flour 3;flour 4;flour 5;flour 6;flour 7;flour 8;";
        String[] setups = {
            // The first setup; then nothing, a bakery with six flours and long lists, and one in which the lists are nearly full.
            "bakery 2000 2 2; flour 10; flour 25; bread 150 3 4; bread 240 5 23; buy 0 40 11; buy 0 30 9; buy 1 20 28; rate 1 4; "
                + "bake 0 6 burnt 1 more 2; wait 50; bake 1 4 late 3; sell 0 3 140;",
            "bakery 0 0 1;",
            "bakery 99999 7 3;" + six + "bread 9 1 1;bread 99 9 999999;bread 999 2 100;" + "buy 0 99 3;buy 2 50 1;".repeat(3)
                + "rate 0 0;rate 2 20;wait 999;bake 0 20;bake 2 9 burnt 2;bake 0 9 less 9;",
            "bakery 500 3 1;flour 3;" + "bread 9 1 1;".repeat(6) + "buy 0 20 3;" + "buy 0 1 1;".repeat(8) + "bake 0 1;".repeat(23)};
        for (int i = 0; i < setups.length; i++) {
            SweepTest test = new SweepTest(setups[i]);
            for (String name : NAMES) {
                test.sweep(name);
            }
            CHECK.is("wrong answers in scene " + i, 0, test.wrong);
        }
        CHECK.end();
    }

    private void sweep(String name) throws Exception {
        Method method = null;
        for (Method each : PennyBakery.class.getDeclaredMethods()) {
            if (each.getName().equals(name)) {
                method = each;
            }
        }
        if (method == null) {
            throw new IllegalArgumentException(name);
        }
        Object[] usual = new Object[method.getParameterCount()];
        Arrays.fill(usual, 1);
        if (usual.length > 1) {
            usual[0] = 0;
        }
        for (int first = 0; first < usual.length; first++) {
            for (int second = usual.length == 1 ? 0 : first + 1; second < usual.length; second++) {
                sweep(method, usual, first, second);
            }
        }
    }

    private void sweep(Method method, Object[] usual, int first, int second) throws Exception {
        for (int one : EDGES) {
            for (int other : EDGES) {
                if (first == second && one != other) {
                    continue;
                }
                Object[] arguments = usual.clone();
                arguments[first] = one;
                arguments[second] = other;
                compare(method, arguments);
            }
        }
    }

    private void compare(Method method, Object[] arguments) throws Exception {
        if (bakery == null || calls > CALLS - 2 - AFTERWARDS.length) {
            open();
        }
        String answer = both(method.getName(), arguments);
        for (String question : AFTERWARDS) {
            both(question);
        }
        if (CHANGES.contains(method.getName()) && !answer.startsWith("throws")) {
            both("undo");
        }
    }

    private void open() {
        bakery = new PennyBakery();
        Check.load(bakery, setup);
        model = new Model();
        for (int i = 0; i < setup.length(); i++) {
            model.feed(setup.charAt(i), 0, 0, 0, 0);
        }
        model.loadSetup();
        if (bakery.errorCode() != 0) {
            throw new IllegalArgumentException("not a setup: " + setup);
        }
        calls = 40;
    }

    private String both(String name, Object... arguments) throws Exception {
        calls++;
        String answer = answer(bakery, name, arguments);
        String due = answer(model, name, arguments);
        if (!answer.equals(due)) {
            wrong++;
            System.out.println(name + Arrays.toString(arguments) + " answered " + answer + ", due is " + due + ", after " + setup);
        }
        return answer;
    }

    private static String answer(Object object, String name, Object[] arguments) throws Exception {
        Class<?>[] types = new Class<?>[arguments.length];
        Arrays.fill(types, int.class);
        Method method = object.getClass().getDeclaredMethod(name, types);
        method.setAccessible(true);
        try {
            return String.valueOf(method.invoke(object, arguments));
        } catch (InvocationTargetException e) {
            return "throws." + e.getCause().getClass().getName();
        }
    }
}
