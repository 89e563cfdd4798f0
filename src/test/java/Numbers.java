import java.lang.reflect.Method;
import java.lang.reflect.Modifier;
import java.util.ArrayList;
import java.util.List;

/** Every call of the class, and numbers of every size to make it with. */
final class Numbers {
    private static final int[] MANY = {
        Integer.MIN_VALUE, -1000001, -100, -1, 0, 1, 2, 3, 4, 5, 7, 8, 9, 11, 12, 23, 24, 25, 31, 32, 39, 40, 41,
        60, 99, 100, 108, 300, 708, 999, 2000, 2324, 4095, 4096, 65535, 65536, Integer.MAX_VALUE,
    };
    private static final int[] SOME = {
        Integer.MIN_VALUE, -1, 0, 1, 2, 3, 4, 7, 8, 11, 12, 24, 25, 99, 108, 708, 2324, Integer.MAX_VALUE,
    };
    private static final int[] FEW = {Integer.MIN_VALUE, -1, 0, 1, 3, 8, 12, 24, Integer.MAX_VALUE};

    private Numbers() {
    }

    static List<Method> calls() {
        List<Method> calls = new ArrayList<>();
        for (Method m : TrainMile.class.getDeclaredMethods()) {
            if (Modifier.isPublic(m.getModifiers())) {
                calls.add(m);
            }
        }
        return calls;
    }

    /** All rows of arguments; the more arguments a call has, the fewer numbers there are for each. */
    static List<Object[]> rowsFor(Method m) {
        Class<?>[] types = m.getParameterTypes();
        int[] numbers = types.length <= 3 ? MANY : types.length == 4 ? SOME : FEW;
        List<Object[]> rows = new ArrayList<>();
        int[] at = new int[types.length];
        int last;
        do {
            rows.add(arguments(types, numbers, at));
            last = at.length - 1;
            while (last >= 0 && ++at[last] == numbers.length) {
                at[last] = 0;
                last--;
            }
        } while (last >= 0);
        return rows;
    }

    private static Object[] arguments(Class<?>[] types, int[] numbers, int[] at) {
        Object[] arguments = new Object[types.length];
        for (int i = 0; i < types.length; i++) {
            int v = numbers[at[i]];
            if (types[i] == boolean.class) {
                arguments[i] = v % 2 == 0;
            } else if (types[i] == long.class) {
                arguments[i] = v * 0x100000001L;
            } else {
                arguments[i] = v;
            }
        }
        return arguments;
    }
}
