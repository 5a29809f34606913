import java.lang.reflect.InvocationTargetException;
import java.lang.reflect.Method;
import java.lang.reflect.Modifier;

/** Every method with every row of extreme numbers, on objects of several states: none throws anything. */
public final class ExtremesTest {
    private static final Checks C = new Checks("ExtremesTest");
    private static final int[] NUMBERS =
        {Integer.MIN_VALUE, Integer.MIN_VALUE + 1, -1, 0, 1, 6, 7, 160, Integer.MAX_VALUE - 1, Integer.MAX_VALUE};
    private static final int[] FEWER = {Integer.MIN_VALUE, -1, 0, 1, 6, Integer.MAX_VALUE};
    private static final Edges.Maker[] MAKERS = {Edges::bare, Edges::rich, Edges::full, Edges::nowhere};
    /** No object of these has had more than some hundred calls when it is handed out. */
    private static final int MOST_CALLS = 300;

    public static void main(String[] arguments) {
        for (Method method : TwoHousesBehind.class.getDeclaredMethods()) {
            if (Modifier.isPublic(method.getModifiers())) {
                for (Edges.Maker maker : MAKERS) {
                    sweep(method, maker);
                }
            }
        }
        C.end();
    }

    private static Object argument(Class<?> type, int number) {
        if (type == boolean.class) {
            return number % 2 == 0;
        }
        if (type == long.class) {
            return number == Integer.MIN_VALUE ? Long.MIN_VALUE : number == Integer.MAX_VALUE ? Long.MAX_VALUE : number;
        }
        return number;
    }

    private static void sweep(Method method, Edges.Maker maker) {
        Class<?>[] types = method.getParameterTypes();
        int[] numbers = types.length > 3 ? FEWER : NUMBERS;
        int rows = 1;
        for (int i = 0; i < types.length; i++) {
            rows *= numbers.length;
        }
        TwoHousesBehind x = maker.make();
        for (int row = 0; row < rows; row++) {
            if (row % MOST_CALLS == MOST_CALLS - 1) {
                x = maker.make();
            }
            Object[] arguments = new Object[types.length];
            int left = row;
            for (int i = 0; i < types.length; i++) {
                arguments[i] = argument(types[i], numbers[left % numbers.length]);
                left /= numbers.length;
            }
            call(x, method, arguments);
        }
    }

    private static void call(TwoHousesBehind x, Method method, Object[] arguments) {
        String told = method.getName() + java.util.Arrays.toString(arguments);
        try {
            method.invoke(x, arguments);
            C.holds(told, true);
        } catch (InvocationTargetException e) {
            C.holds(told + " without " + e.getCause(), false);
        } catch (IllegalAccessException e) {
            C.holds(told + " can be called", false);
        }
    }
}
