import java.lang.reflect.InvocationTargetException;
import java.lang.reflect.Method;
import java.util.Arrays;

/** Every call with numbers of every size, in worlds that are empty, busy and full: none may throw. */
public final class AnyNumbersTest {
    private static final Check check = new Check("AnyNumbersTest");
    private static final int MOST_CALLS = 400;
    private static final int MOST_TOLD = 3;

    public static void main(String[] args) throws Exception {
        for (Method m : Numbers.calls()) {
            allNumbers("a new one", Worlds::fresh, m);
            allNumbers("a busy one", Worlds::busy, m);
            allNumbers("a full one", Worlds::full, m);
        }
        check.end();
    }

    private static void allNumbers(String name, Edge.World world, Method m) throws Exception {
        TrainMile x = world.make();
        int thrown = 0;
        int made = 0;
        for (Object[] row : Numbers.rowsFor(m)) {
            if (++made % MOST_CALLS == 0) {
                x = world.make();
            }
            thrown += thrown < MOST_TOLD && throwsWith(x, m, row) ? 1 : 0;
        }
        check.due("on " + name + " " + m.getName() + " throws", thrown, 0);
    }

    private static boolean throwsWith(TrainMile x, Method m, Object[] arguments) throws IllegalAccessException {
        try {
            m.invoke(x, arguments);
            return false;
        } catch (InvocationTargetException e) {
            System.out.println(m.getName() + Arrays.toString(arguments) + " throws " + e.getCause());
            return true;
        }
    }
}
