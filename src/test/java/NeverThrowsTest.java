import java.lang.reflect.InvocationTargetException;
import java.lang.reflect.Method;
import java.lang.reflect.Modifier;
import java.util.Arrays;

/** LANGUAGE.md, rule 7: no call throws, for any arguments in any state; here all calls with all edges at once. */
public final class NeverThrowsTest {
    private static final int LOW = Integer.MIN_VALUE, HIGH = Integer.MAX_VALUE;
    private static final int[] MANY = {LOW, LOW + 1, -101, -14, -3, -2, -1, 0, 1, 2, 3, 4, 5, 6, 7, 8, 9, 10, 15, 16, 20, 21,
        23, 24, 25, 30, 31, 39, 40, 41, 159, 160, 161, 255, 256, 65536, HIGH - 6, HIGH - 1, HIGH};
    private static final int[] FEW = {LOW, -1, 0, 1, 2, 3, 4, 6, 7, 39, 40, 41, HIGH};

    private static int wrong = 0;
    private static long calls = 0;

    private static void call(AtTheDoor x, Method m, Object[] arguments) throws IllegalAccessException {
        calls++;
        try {
            m.invoke(x, arguments);
        } catch (InvocationTargetException e) {
            wrong++;
            if (wrong < 20) {
                System.out.println(m.getName() + Arrays.toString(arguments) + " threw " + e.getCause());
            }
        }
    }

    private static void callWithAll(AtTheDoor x, Method m, Object[] arguments, int from) throws IllegalAccessException {
        if (from == arguments.length) {
            call(x, m, arguments);
            return;
        }
        for (int v : arguments.length < 4 ? MANY : FEW) {
            arguments[from] = v;
            callWithAll(x, m, arguments, from + 1);
        }
    }

    private static AtTheDoor made(int state) {
        return state == 0 ? new AtTheDoor() : state == 1 ? Houses.furnished() : Houses.full();
    }

    public static void main(String[] args) throws IllegalAccessException {
        int methods = 0;
        for (Method m : AtTheDoor.class.getDeclaredMethods()) {
            if (Modifier.isPublic(m.getModifiers())) {
                methods++;
                for (int state = 0; state < 3; state++) {
                    AtTheDoor x = made(state);
                    callWithAll(x, m, new Object[m.getParameterCount()], 0);
                    // What the edges left behind must be fit for use as well.
                    Houses.allOf(x);
                }
            }
        }
        System.out.println(methods + " methods, " + calls + " calls, " + wrong + " threw");
        if (wrong != 0 || methods != 32) {
            System.exit(1);
        }
    }
}
