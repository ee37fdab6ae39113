import java.lang.reflect.Method;
import java.util.HashMap;
import java.util.Map;
import java.util.Random;

/** Runs of calls, always the same ones, on the class and on the model: all answers must be alike. */
public final class ModelTest {
    private static final int RUNS = 1500;
    private static final int CALLS = 512;
    private static final int TELLING_MOST = 170;
    /** Each call and what it is given, a letter a number (see argument); what stands twice is called twice as often. */
    private static final String[] FACE = {
        "type c", "person pw", "row rw", "crosses p", "crosses p", "crosses p", "drops r", "draws r", "rains b",
        "year", "year", "undo", "now w", "now w", "order lp", "lastOne", "crossings p", "over p", "mend pb",
        "odds pxnb", "plumbs rx", "forget", "drew b", "drew b", "night b", "night b", "mark wr", "keep b", "back b",
        "count w", "trace"};
    private static final String[] RARE = {"clear", "turnsBack", "gorge"};
    private static final int[] WILD = {-2, -1, 7, 11, 40, 41, 256, Integer.MIN_VALUE, Integer.MAX_VALUE};
    private static final String[] BROKEN = {
        "p", "k", "g", "s", ";", " ", "0", "9", "20", "31", "01", "100", "pk", "x", "P", "-", "p1 1;", "g3;", "s0;"};

    private final Random random;
    private final WoolBridge bridge = new WoolBridge();
    private final Model model = new Model();
    private final Map<String, Method> ofBridge = methodsOf(WoolBridge.class);
    private final Map<String, Method> ofModel = methodsOf(Model.class);
    private final String name;

    private ModelTest(int seed) {
        random = new Random(seed);
        name = "run " + seed + ": ";
    }

    public static void main(String[] args) throws ReflectiveOperationException {
        for (int run = 0; run < RUNS; run++) {
            new ModelTest(run).run();
        }
        Check.end();
    }

    private static Map<String, Method> methodsOf(Class<?> owner) {
        Map<String, Method> methods = new HashMap<>();
        for (Method method : owner.getDeclaredMethods()) {
            methods.put(method.getName(), method);
        }
        return methods;
    }

    private void run() throws ReflectiveOperationException {
        int calls = 0;
        while (calls < CALLS) {
            boolean room = calls + TELLING_MOST <= CALLS;
            if (calls == 0 || room && random.nextInt(60) == 0) {
                calls += tell();
            } else {
                String[] from = random.nextInt(60) == 0 ? RARE : FACE;
                call(from[random.nextInt(from.length)]);
                calls++;
            }
        }
    }

    private void call(String what) throws ReflectiveOperationException {
        String[] words = what.split(" ");
        String letters = words.length == 1 ? "" : words[1];
        Object[] arguments = new Object[letters.length()];
        StringBuilder told = new StringBuilder(name).append(words[0]);
        for (int i = 0; i < arguments.length; i++) {
            arguments[i] = argument(letters.charAt(i));
            told.append(' ').append(arguments[i]);
        }
        Number got = (Number) ofBridge.get(words[0]).invoke(bridge, arguments);
        Number want = (Number) ofModel.get(words[0]).invoke(model, arguments);
        Check.due(told.toString(), got.longValue(), want.longValue());
    }

    /** Mostly a number that may be, now and then one just beyond or a wild one. */
    private int argument(char letter) {
        if (random.nextInt(30) == 0) {
            return WILD[random.nextInt(WILD.length)];
        }
        int beyond = random.nextInt(20) == 0 ? 1 : 0;
        switch (letter) {
            case 'c': return random.nextInt(256);
            case 'p': return random.nextInt(Math.max(1, model.count(0)) + beyond);
            case 'l': return random.nextInt(1 + model.count(0) + beyond) - 1;
            case 'r': return random.nextInt(Math.max(1, model.now(1)) + beyond);
            case 'b': return random.nextInt(2 + beyond);
            case 'w': return random.nextInt(9 + beyond);
            case 'x': return random.nextInt(11 + beyond);
            default: return random.nextInt(7 + beyond);
        }
    }

    private int tell() throws ReflectiveOperationException {
        String text = random.nextInt(4) == 0 ? brokenText() : goodText();
        Check.type(bridge, text);
        for (int i = 0; i < text.length(); i++) {
            model.type(text.charAt(i));
        }
        call("count w");
        call("gorge");
        int calls = text.length() + 2;
        Check.due(name + "calls for a telling, beyond what is reckoned", Math.max(TELLING_MOST, calls), TELLING_MOST);
        return calls;
    }

    private String goodText() {
        StringBuilder text = new StringBuilder();
        int people = 1 + random.nextInt(6);
        boolean strong = random.nextBoolean();
        for (int p = 0; p < people; p++) {
            int heavy = 1 + random.nextInt(strong ? 4 : 9);
            int thick = strong ? 5 + random.nextInt(5) : 1 + random.nextInt(9);
            text.append('p').append(heavy).append(' ').append(thick).append(';');
        }
        int rows = 0;
        for (int parts = random.nextInt(6); parts > 0 && rows < 40; parts--) {
            int more = 1 + random.nextInt(Math.min(20, 40 - rows));
            text.append(" k ").append(random.nextInt(people)).append(' ').append(more).append(" ;");
            rows += more;
        }
        if (random.nextInt(3) > 0) {
            text.append('g').append(Math.max(1, Math.min(30, rows - random.nextInt(4)))).append(';');
        }
        if (random.nextInt(3) > 0) {
            text.append('s').append(random.nextInt(31)).append(';');
        }
        return text.toString();
    }

    private String brokenText() {
        StringBuilder text = new StringBuilder(random.nextBoolean() ? goodText() : "");
        for (int i = random.nextInt(12); i >= 0; i--) {
            text.insert(random.nextInt(text.length() + 1), BROKEN[random.nextInt(BROKEN.length)]);
        }
        if (random.nextInt(5) == 0) {
            text.append((char) random.nextInt(256));
        }
        return text.toString();
    }
}
