import java.lang.reflect.InvocationTargetException;
import java.lang.reflect.Method;
import java.util.ArrayList;
import java.util.Arrays;
import java.util.Comparator;
import java.util.List;
import java.util.Random;

/** Any arguments in any state: no call throws, and one that answers an ERROR, or only asks, changes nothing. */
public final class WildTest {
    private static final int[] WILD = {Integer.MIN_VALUE, Integer.MAX_VALUE, -1, -2, 3, 8, 16, 32, 40, 41, 120, 121};
    private static final List<String> ASKS = Arrays.asList("ofDead", "as", "takes", "ofDish", "hunger", "law", "then",
        "thenHeat", "angers", "table", "forget", "needs", "first", "share", "voice", "trace", "sheet", "put", "move", "count",
        "told", "image");
    /** Their answers are any number, or they tell that an ERROR changes something. */
    private static final List<String> NOT_BOUND = Arrays.asList("seed", "check", "count", "voice");

    private static final Random RANDOM = new Random(40);

    private WildTest() {
    }

    public static void main(String[] args) throws IllegalAccessException {
        Method[] face = GhostTable.class.getDeclaredMethods();
        List<Method> calls = new ArrayList<>();
        for (Method m : face) {
            if (java.lang.reflect.Modifier.isPublic(m.getModifiers())) {
                calls.add(m);
            }
        }
        calls.sort(Comparator.comparing(Method::getName));
        for (int run = 0; run < 300; run++) {
            GhostTable x = new GhostTable();
            String before = Seen.byAsking(x);
            for (int i = 0; i < 300; i++) {
                Method m = calls.get(RANDOM.nextInt(calls.size()));
                before = hold(x, m, before);
            }
        }
        Due.end();
    }

    private static String hold(GhostTable x, Method m, String before) throws IllegalAccessException {
        Object[] arguments = arguments(m);
        String call = m.getName() + Arrays.toString(arguments);
        int answer;
        try {
            answer = (Integer) m.invoke(x, arguments);
        } catch (InvocationTargetException e) {
            Due.holds(call + " threw " + e.getCause(), false);
            return before;
        }
        String after = Seen.byAsking(x);
        boolean error = answer < -1000000000 && !NOT_BOUND.contains(m.getName());
        if (error || ASKS.contains(m.getName())) {
            Due.holds(call + " changed nothing\n " + before + "\n " + after, before.equals(after));
        }
        return after;
    }

    private static Object[] arguments(Method m) {
        Class<?>[] types = m.getParameterTypes();
        Object[] arguments = new Object[types.length];
        for (int i = 0; i < types.length; i++) {
            arguments[i] = types[i] == long.class ? (Object) RANDOM.nextLong() : (Object) number();
        }
        return arguments;
    }

    private static int number() {
        int luck = RANDOM.nextInt(12);
        return luck == 0 ? RANDOM.nextInt() : luck == 1 ? WILD[RANDOM.nextInt(WILD.length)]
            : luck < 7 ? RANDOM.nextInt(3) : RANDOM.nextInt(60);
    }
}
