import java.lang.reflect.InvocationTargetException;
import java.lang.reflect.Method;
import java.lang.reflect.Modifier;
import java.util.Random;

/** No call throws, whatever its arguments, in any state, also behind the 512th call. */
final class AnyCallTest {
    private static final int[] EDGES = {Integer.MIN_VALUE, Integer.MIN_VALUE + 1, -129, -9, -1, 0, 1,
        2, 3, 5, 6, 11, 12, 40, 41, 59, 60, 61, 3600, Integer.MAX_VALUE - 1, Integer.MAX_VALUE};

    private AnyCallTest() {
    }

    static void run(Checks c) {
        c.beside("any call");
        everyEdge(c, "");
        everyEdge(c, "d12 k1");
        everyEdge(c, "d60 h9 r9 g9 c9 t9 k9 e01 e59 e30");
        everyEdge(c, "d12 c1 t1 t2 k9");
    }

    private static ClockFeet begin(String signs) {
        ClockFeet x = new ClockFeet();
        if (!signs.isEmpty()) {
            Halls.write(x, 0, signs);
            x.hall(0);
        }
        Halls.fill(x, 0, 0, -1, Integer.MAX_VALUE, Integer.MIN_VALUE, 5);
        return x;
    }

    private static void everyEdge(Checks c, String signs) {
        Random random = new Random(5);
        ClockFeet x = begin(signs);
        for (Method method : ClockFeet.class.getDeclaredMethods()) {
            if (!Modifier.isPublic(method.getModifiers())) {
                continue;
            }
            for (int i = 0; i < 800; i++) {
                Object[] arguments = new Object[method.getParameterCount()];
                for (int k = 0; k < arguments.length; k++) {
                    arguments[k] = EDGES[random.nextInt(EDGES.length)];
                }
                callOnce(c, x, method, arguments);
            }
            if (!signs.isEmpty() && x.count(0) == 0) {
                c.wrong("the HALL went by " + method);
            }
        }
    }

    private static void callOnce(Checks c, ClockFeet x, Method method, Object[] arguments) {
        try {
            method.invoke(x, arguments);
            c.right();
        } catch (InvocationTargetException | IllegalAccessException thrown) {
            c.wrong(method + java.util.Arrays.toString(arguments) + " threw " + thrown.getCause());
        }
    }
}
