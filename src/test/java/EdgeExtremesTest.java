import java.lang.reflect.InvocationTargetException;
import java.lang.reflect.Method;
import java.lang.reflect.Modifier;
import java.util.Arrays;
import java.util.Comparator;

/** No call throws, whatever its arguments: each call with the least, the greatest and all near numbers. */
public final class EdgeExtremesTest {
    private static final Due due = new Due();
    private static final long[] NUMBERS = {Integer.MIN_VALUE, Integer.MIN_VALUE + 1, -1, 0, 1, 3, 12, 41,
        Integer.MAX_VALUE - 1, Integer.MAX_VALUE};
    private static final int MOST_CALLS = 450;
    private static final Twins.Maker[] STATES = {x -> { }, Twins::rich, x -> fullHouse(x, "barrel 9 ripe 100;"),
        x -> fullHouse(x, "gap;"), x -> fullHouse(x, "barrel 1 stones;")};

    public static void main(String[] args) throws Exception {
        due.about("No call throws");
        Method[] all = HeardBarrels.class.getDeclaredMethods();
        Arrays.sort(all, Comparator.comparing(Method::getName));
        for (Twins.Maker state : STATES) {
            for (Method m : all) {
                if (Modifier.isPublic(m.getModifiers())) {
                    tryAll(m, state);
                }
            }
        }
        due.end();
    }

    /** Twelve places of one kind, rows that are full, MISSING, empty, and of 12 numbers, both images. */
    private static void fullHouse(HeardBarrels x, String place) {
        Due.house(x, place.repeat(12) + "hands 12;");
        x.numbers(0, 3, 40);
        x.write(0, 39, Long.MIN_VALUE);
        x.numbers(3, 1, 12);
        x.copy(4095, 3);
        x.numbers(1, 0, 0);
        x.image(0);
        x.image(1);
    }

    private static void tryAll(Method m, Twins.Maker state) throws Exception {
        Class<?>[] types = m.getParameterTypes();
        int[] choice = new int[types.length];
        HeardBarrels x = null;
        int calls = MOST_CALLS;
        boolean more = true;
        while (more) {
            if (calls >= MOST_CALLS) {
                x = new HeardBarrels();
                state.make(x);
                calls = 0;
            }
            calls++;
            Object[] arguments = arguments(types, choice);
            String thrown = "";
            try {
                m.invoke(x, arguments);
            } catch (InvocationTargetException e) {
                thrown = e.getCause().toString();
            }
            due.same(m.getName() + Arrays.toString(arguments), thrown, "");
            more = next(choice);
        }
    }

    private static Object[] arguments(Class<?>[] types, int[] choice) {
        Object[] all = new Object[types.length];
        for (int i = 0; i < types.length; i++) {
            long v = NUMBERS[choice[i]];
            if (types[i] == boolean.class) {
                all[i] = v > 0;
            } else if (types[i] == long.class) {
                all[i] = v == Integer.MAX_VALUE ? Long.MAX_VALUE : v == Integer.MIN_VALUE ? Long.MIN_VALUE : v;
            } else {
                all[i] = (int) v;
            }
        }
        return all;
    }

    /** Steps to the next choice of arguments: whether there is one. With five of them the last two are alike. */
    private static boolean next(int[] choice) {
        int free = Math.min(choice.length, 3);
        for (int i = 0; i < free; i++) {
            choice[i]++;
            if (choice[i] < NUMBERS.length) {
                Arrays.fill(choice, free, choice.length, choice[0]);
                return true;
            }
            choice[i] = 0;
        }
        return false;
    }
}
