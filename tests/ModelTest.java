import java.lang.reflect.InvocationTargetException;
import java.lang.reflect.Method;
import java.lang.reflect.Modifier;
import java.util.ArrayList;
import java.util.Comparator;
import java.util.List;
import java.util.Random;

/**
 * All promises: the class and the model are given the same random calls and must answer the same.
 * The seeds are fixed, so that each run makes the same calls.
 */
final class ModelTest {
    private static final Check CHECK = new Check("ModelTest");
    private static final int OBJECTS = 300;
    /** An object is promised to answer so many calls. */
    private static final int CALLS = 512;
    /** The longest text, of 42 commands, has less than 1,600 bytes: more than 700 of them are refused. */
    private static final int CALLS_OF_A_TEXT = 1600 / 20 + 3;
    private static final int[] STRANGE = {Integer.MIN_VALUE, Integer.MIN_VALUE + 1, -1000000, -10, -9, -1, 0, 1, 2, 3, 5, 6, 9,
        10, 12, 20, 21, 23, 24, 99, 100, 999, 1000, 999999, 1000000, Integer.MAX_VALUE};

    private final Random random;
    private final PennyBakery bakery = new PennyBakery();
    private final Model model = new Model();
    private final List<String> log = new ArrayList<>();
    private boolean good = true;
    private int calls;

    private ModelTest(long seed) {
        random = new Random(seed);
    }

    public static void main(String[] args) throws Exception {
        List<Method> face = face();
        CHECK.is("calls of the face", 64, face.size());
        for (int seed = 0; seed < OBJECTS; seed++) {
            ModelTest test = new ModelTest(seed);
            test.run(face);
            CHECK.is("seed " + seed, 1, test.good ? 1 : 0);
        }
        CHECK.end();
    }

    private static List<Method> face() {
        List<Method> face = new ArrayList<>();
        for (Method method : PennyBakery.class.getDeclaredMethods()) {
            if (Modifier.isPublic(method.getModifiers())) {
                face.add(method);
            }
        }
        face.sort(Comparator.comparing(Method::getName));
        return face;
    }

    private void run(List<Method> face) throws Exception {
        List<Method> last = new ArrayList<>(face);
        last.removeIf(method -> method.getParameterCount() > 0);
        while (good && calls + CALLS_OF_A_TEXT + last.size() <= CALLS) {
            int choice = random.nextInt(100);
            if (choice < 5) {
                text();
            } else if (choice < 50) {
                likelyChange(face);
            } else {
                Method method = face.get(random.nextInt(face.size()));
                call(method, arguments(method));
            }
        }
        for (Method method : last) {
            call(method);
        }
    }

    private static Method named(List<Method> face, String name) {
        for (Method method : face) {
            if (method.getName().equals(name)) {
                return method;
            }
        }
        throw new IllegalArgumentException(name);
    }

    private void likelyChange(List<Method> face) throws Exception {
        switch (random.nextInt(12)) {
            case 0, 1 -> call(named(face, "buy"), below(model.flourCount()), 1 + below(30), 1 + below(30));
            case 2, 3, 4 -> call(named(face, "bake"), below(model.breadCount()), 1 + below(5), below(2), below(7) - 3, below(19) - 9);
            case 5 -> call(named(face, "sell"), below(model.breadCount()), 1 + below(4), 1 + below(300));
            case 6 -> call(named(face, "setRate"), below(24), below(21));
            case 7 -> call(named(face, "waitMinutes"), 1 + below(200));
            case 8 -> call(named(face, "undo"));
            case 9 -> call(named(face, "addFlour"), 1 + below(30));
            case 10 -> call(named(face, "addBread"), 1 + below(300), 1 + below(9), 1 + below((int) Math.pow(10, 1 + below(6))));
            default -> call(named(face, random.nextBoolean() ? "save" : "restore"), below(2));
        }
    }

    private int below(int bound) {
        return random.nextInt(Math.max(bound, 1));
    }

    private Object[] arguments(Method method) {
        Object[] arguments = new Object[method.getParameterCount()];
        for (int i = 0; i < arguments.length; i++) {
            arguments[i] = random.nextInt(6) == 0 ? STRANGE[below(STRANGE.length)] : below(random.nextBoolean() ? 3 : 25);
        }
        return arguments;
    }

    private void text() throws Exception {
        StringBuilder text = new StringBuilder();
        boolean isSetup = random.nextInt(5) == 0;
        if (isSetup) {
            text.append("bakery ").append(below(20000)).append(' ').append(below(21)).append(' ').append(1 + below(3)).append(';');
            text.append("flour 9; flour 7; bread 99 2 12; bread 150 3 20; buy 0 60 8; buy 1 70 9;");
        }
        int commands = random.nextInt(12) == 0 ? 42 : below(8);
        for (int i = 0; i < commands; i++) {
            text.append(command()).append(random.nextInt(4) == 0 ? ";\n" : ";");
        }
        if (random.nextInt(3) == 0) {
            spoil(text);
        }
        feed(text);
        List<Method> face = face();
        call(named(face, isSetup ? "loadSetup" : "runScript"));
        call(named(face, "errorCode"));
        call(named(face, "errorPosition"));
    }

    private String command() {
        switch (random.nextInt(9)) {
            case 0: return "flour " + below(101);
            case 1: return "bread " + (1 + below(999)) + " " + below(11) + " " + below((int) Math.pow(10, 1 + below(7)));
            case 2: return "buy " + below(3) + " " + (1 + below(40)) + " " + (1 + below(30));
            case 3: return "rate " + below(25) + " " + below(22);
            case 4: return "sell " + below(3) + " " + (1 + below(3)) + " " + (1 + below(300));
            case 5: return "wait " + (1 + below(500));
            default: return "bake " + below(3) + " " + (1 + below(4)) + extras();
        }
    }

    private String extras() {
        String[] words = {"burnt", "more", "less", "late", "early"};
        StringBuilder extras = new StringBuilder();
        for (int i = below(4); i > 0; i--) {
            extras.append(' ').append(words[below(5)]).append(' ').append(below(3));
        }
        return extras.toString();
    }

    private void spoil(StringBuilder text) {
        if (text.length() == 0) {
            return;
        }
        int at = below(text.length());
        switch (random.nextInt(4)) {
            case 0 -> text.setLength(at);
            case 1 -> text.deleteCharAt(at);
            case 2 -> text.setCharAt(at, (char) (1 + below(255)));
            default -> text.insert(at, " 9;x burnt bake\n".charAt(below(16)));
        }
    }

    private void feed(StringBuilder text) throws Exception {
        Method feed = named(face(), "feed");
        for (int at = 0; at < text.length(); at += 20) {
            Object[] words = new Object[5];
            for (int word = 0; word < 5; word++) {
                int bytes = 0;
                for (int i = 0; i < 4; i++) {
                    int place = at + 4 * word + i;
                    bytes = bytes << 8 | (place < text.length() ? text.charAt(place) & 255 : 0);
                }
                words[word] = bytes;
            }
            call(feed, words);
        }
    }

    private void call(Method method, Object... arguments) throws Exception {
        if (!good) {
            return;
        }
        calls++;
        String answer = answer(bakery, method, arguments);
        Method twin = Model.class.getDeclaredMethod(method.getName(), method.getParameterTypes());
        String due = answer(model, twin, arguments);
        log.add(method.getName() + java.util.Arrays.toString(arguments) + " = " + answer);
        good = answer.equals(due);
        if (!good) {
            System.out.println(String.join("\n", log.subList(Math.max(0, log.size() - 30), log.size())));
            System.out.println("due is " + due);
        }
    }

    private static String answer(Object object, Method method, Object[] arguments) throws Exception {
        try {
            method.setAccessible(true);
            return String.valueOf(method.invoke(object, arguments));
        } catch (InvocationTargetException e) {
            return "throws." + e.getCause().getClass().getName();
        }
    }
}
