import java.lang.reflect.InvocationTargetException;
import java.lang.reflect.Method;
import java.lang.reflect.Modifier;
import java.util.ArrayList;
import java.util.Comparator;
import java.util.List;
import java.util.Random;

/** Any call with any of the numbers at the document's edges, in any state, beside the model: none throws. */
public final class WildTest {
    private static final int MIN = Integer.MIN_VALUE, MAX = Integer.MAX_VALUE;
    private static final int RUNS = 400, CALLS = 512;
    private static final int[] SMALL = {-1, 0, 1, 2, 3, 4, 5, 6, 7, 8};
    private static final int[] EDGES = {MIN, MIN + 1, -1000001, -256, -129, -3, -2, 9, 10, 11, 19, 20, 21, 31, 32, 33,
        39, 40, 41, 63, 64, 99, 100, 101, 127, 128, 255, 256, 511, 512, 999, 1000, 32767, 32768, 65535, 65536, 999999,
        1000000, 1 << 30, MAX - 1, MAX};
    private static final String[] SHIPS = {
        "s10,20,0;a1;a1;a1;a1;a1;a1;", "s0,1,19;w9;", "s9,2,10;a1;o9;r9;g1;w9;g2;", "s5,20,1;g1;g1;w1;", "s1,3,0;r1;o1;",
        "s10,5,3;a9;w9;"
    };
    private static final Check check = new Check();
    private static final List<Method> CALLED = calls();

    private WildTest() {
    }

    private static List<Method> calls() {
        List<Method> list = new ArrayList<>();
        for (Method m : StormLots.class.getDeclaredMethods()) {
            if (Modifier.isPublic(m.getModifiers())) {
                list.add(m);
            }
        }
        list.sort(Comparator.comparing(Method::getName));
        return list;
    }

    public static void main(String[] args) throws ReflectiveOperationException {
        for (int seed = 0; seed < RUNS; seed++) {
            run(new Random(seed), seed);
        }
        check.end();
    }

    private static void run(Random dice, int seed) throws ReflectiveOperationException {
        StormLots x = new StormLots();
        Model y = new Model();
        int calls = 0;
        if (dice.nextInt(10) > 0) {
            calls = tell(x, y, SHIPS[dice.nextInt(SHIPS.length)]);
        }
        while (calls < CALLS) {
            Method m = CALLED.get(dice.nextInt(CALLED.size()));
            // a tape that is fed and read without aim would only make faults
            if (m.getName().equals("ship") && dice.nextInt(20) > 0) {
                continue;
            }
            calls++;
            Object[] numbers = numbers(m, dice);
            check.where = "seed " + seed + " call " + calls;
            check.due(m.getName() + " " + java.util.Arrays.toString(numbers), answer(m, x, numbers), told(m, y, numbers));
        }
    }

    private static int tell(StormLots x, Model y, String text) {
        for (int i = 0; i < text.length(); i++) {
            x.feed(text.charAt(i));
            y.feed(text.charAt(i));
        }
        check.due("ship", x.ship(), y.ship());
        return text.length() + 1;
    }

    private static Object[] numbers(Method m, Random dice) {
        Object[] numbers = new Object[m.getParameterCount()];
        for (int i = 0; i < numbers.length; i++) {
            int[] from = dice.nextInt(5) > 0 ? SMALL : EDGES;
            numbers[i] = from[dice.nextInt(from.length)];
        }
        return numbers;
    }

    private static long answer(Method m, StormLots x, Object[] numbers) throws ReflectiveOperationException {
        try {
            return ((Number) m.invoke(x, numbers)).longValue();
        } catch (InvocationTargetException e) {
            check.holds(m.getName() + " does not throw " + e.getCause(), false);
            return Long.MAX_VALUE;
        }
    }

    private static long told(Method m, Model y, Object[] numbers) throws ReflectiveOperationException {
        Method same = Model.class.getDeclaredMethod(m.getName(), m.getParameterTypes());
        return (Long) same.invoke(y, numbers);
    }
}
