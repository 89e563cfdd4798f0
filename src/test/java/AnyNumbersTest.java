import java.lang.reflect.InvocationTargetException;
import java.lang.reflect.Method;
import java.lang.reflect.Modifier;

/** Every call with numbers of every size, in worlds that are empty, busy and full: none may throw. */
public final class AnyNumbersTest {
    private static final Check check = new Check("AnyNumbersTest");
    private static final int MOST_CALLS = 400;
    private static final int[] MANY = {
        Integer.MIN_VALUE, -1000001, -100, -1, 0, 1, 2, 3, 4, 5, 7, 8, 9, 11, 12, 23, 24, 25, 31, 32, 39, 40, 41,
        60, 99, 100, 108, 300, 708, 999, 2000, 2324, 4095, 4096, 65535, 65536, Integer.MAX_VALUE,
    };
    private static final int[] SOME = {
        Integer.MIN_VALUE, -1, 0, 1, 2, 7, 8, 11, 12, 24, 25, 99, 108, 708, 2324, Integer.MAX_VALUE,
    };
    private static final int[] FEW = {Integer.MIN_VALUE, -1, 0, 1, 3, 8, 12, 24, Integer.MAX_VALUE};

    public static void main(String[] args) throws Exception {
        for (Method m : TrainMile.class.getDeclaredMethods()) {
            if (Modifier.isPublic(m.getModifiers())) {
                allNumbers("a new one", Worlds::fresh, m);
                allNumbers("a busy one", Worlds::busy, m);
                allNumbers("a full one", Worlds::full, m);
            }
        }
        check.end();
    }

    private static void allNumbers(String name, Edge.World world, Method m) throws Exception {
        Class<?>[] types = m.getParameterTypes();
        int[] numbers = types.length <= 3 ? MANY : types.length == 4 ? SOME : FEW;
        int[] at = new int[types.length];
        TrainMile x = world.make();
        int thrown = 0;
        int made = 0;
        int last;
        do {
            if (++made % MOST_CALLS == 0) {
                x = world.make();
            }
            thrown += throwsWith(x, m, arguments(types, numbers, at)) ? 1 : 0;
            last = at.length - 1;
            while (last >= 0 && ++at[last] == numbers.length) {
                at[last] = 0;
                last--;
            }
        } while (last >= 0 && thrown < 3);
        check.due("on " + name + " " + m.getName() + " throws", thrown, 0);
    }

    private static Object[] arguments(Class<?>[] types, int[] numbers, int[] at) {
        Object[] arguments = new Object[types.length];
        for (int i = 0; i < types.length; i++) {
            int v = numbers[at[i]];
            if (types[i] == boolean.class) {
                arguments[i] = v % 2 == 0;
            } else if (types[i] == long.class) {
                arguments[i] = v * 0x100000001L;
            } else {
                arguments[i] = v;
            }
        }
        return arguments;
    }

    private static boolean throwsWith(TrainMile x, Method m, Object[] arguments) throws IllegalAccessException {
        try {
            m.invoke(x, arguments);
            return false;
        } catch (InvocationTargetException e) {
            System.out.println(m.getName() + java.util.Arrays.toString(arguments) + " throws " + e.getCause());
            return true;
        }
    }
}
