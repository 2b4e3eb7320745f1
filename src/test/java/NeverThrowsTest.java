import java.lang.reflect.InvocationTargetException;
import java.lang.reflect.Method;
import java.lang.reflect.Modifier;
import java.util.List;
import java.util.function.Supplier;

/** Rule 7 of LANGUAGE.md: no call throws, for any arguments: each call with numbers at all ends, in three states. */
public final class NeverThrowsTest {
    private static final long[] ENDS = {Integer.MIN_VALUE, Integer.MIN_VALUE + 1, -3, -2, -1, 0, 1, 2, 3, 4, 7, 8, 10, 23,
        24, 25, 59, 60, 61, 160, 255, 256, 4095, 4096, Integer.MAX_VALUE - 1, Integer.MAX_VALUE};
    private static final long[] LONG_ENDS = {Long.MIN_VALUE, Long.MIN_VALUE + 1, -1, 0, 1, 255, Long.MAX_VALUE};

    private static long calls;
    private static int wrong;

    public static void main(String[] args) throws IllegalAccessException {
        List<Supplier<UnreadScript>> states = List.of(UnreadScript::new, Scripts::some, Scripts::full);
        for (Method method : UnreadScript.class.getDeclaredMethods()) {
            if (!Modifier.isPublic(method.getModifiers())) continue;
            for (Supplier<UnreadScript> state : states) {
                callAll(state.get(), method, new Object[method.getParameterCount()], 0);
            }
        }
        System.out.println(calls + " calls, " + wrong + " of them threw");
        if (wrong != 0 || calls == 0) System.exit(1);
    }

    private static void callAll(UnreadScript x, Method method, Object[] with, int next) throws IllegalAccessException {
        if (next == with.length) {
            call(x, method, with);
            return;
        }
        boolean isLong = method.getParameterTypes()[next] == long.class;
        for (long v : isLong ? LONG_ENDS : ENDS) {
            with[next] = isLong ? (Object) v : (Object) (int) v;
            callAll(x, method, with, next + 1);
        }
    }

    private static void call(UnreadScript x, Method method, Object[] with) throws IllegalAccessException {
        calls++;
        try {
            method.invoke(x, with);
        } catch (InvocationTargetException thrown) {
            wrong++;
            if (wrong < 20) System.out.println(method.getName() + List.of(with) + " threw " + thrown.getCause());
        }
    }
}
