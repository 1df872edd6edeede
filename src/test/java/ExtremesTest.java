import java.lang.reflect.InvocationTargetException;
import java.lang.reflect.Method;
import java.lang.reflect.Modifier;
import java.util.Arrays;

/** No call throws, whatever its arguments: each method with numbers at and beyond every edge, in several states. */
public final class ExtremesTest extends Bench {
    private static final int[] NUMBERS = {Integer.MIN_VALUE, Integer.MIN_VALUE + 1, -1024, -64, -11, -2, -1, 0, 1, 2, 3, 4, 5, 6, 7, 8, 9, 10, 11, 15, 16, 20, 31, 32, 33,
        40, 41, 63, 64, 99, 100, 1023, 1024, 1 << 30, Integer.MAX_VALUE - 1, Integer.MAX_VALUE};
    private static final int CALLS = 400;

    private static final Maker[] STATES = {
        BlankNote::new,
        () -> behind(CHAIN, 3),
        () -> behind(FULL, 0),
        () -> behind(FULL + "hears : note * who > blank * ear - 3;goes : step > 1;", 2),
        () -> behind("scale 10;place 10;person at 0;hears : 1 = 0;goes : 1 = 0;", 1),
        () -> behind("scale 2;place 2 2 2 0;place 2;place 2;way 0 1;person at 2 blank 0;person at 1 blank 0;", 40),
    };

    private static BlankNote behind(String text, int deeds) {
        BlankNote x = new BlankNote();
        tell(x, text);
        for (int t = 0; t < 3; t++) x.numbers(t, t, deeds);
        for (int i = 0; i < deeds; i++) x.write(1, i, i % 2 == 0 ? NONE : i);
        x.image(1);
        x.year(deeds, 40);
        x.perform(1);
        feed(x, "scale 3;tune 0 1 2;");
        return x;
    }

    private static Object[] arguments(Method m, int from, int step) {
        Class<?>[] types = m.getParameterTypes();
        Object[] args = new Object[types.length];
        int at = from;
        for (int i = 0; i < types.length; i++) {
            int v = NUMBERS[at % NUMBERS.length];
            args[i] = types[i] == long.class ? (Object) ((long) v << (step % 2 == 0 ? 0 : 32)) : (Object) v;
            at = i == 0 && types.length > 3 ? at + step : at / NUMBERS.length;
        }
        return args;
    }

    private static void sweep(Maker maker, Method m) throws IllegalAccessException {
        int ways = 1;
        for (int i = 0; i < Math.min(3, m.getParameterCount()); i++) ways *= NUMBERS.length;
        // three numbers have too many ways to try each: every seventh is tried
        int stride = m.getParameterCount() < 3 ? 1 : 7;
        BlankNote x = null;
        for (int w = 0; w < ways; w += stride) {
            if (x == null || w / stride % CALLS == 0) x = maker.make();
            Object[] args = arguments(m, w, w / stride);
            try {
                m.invoke(x, args);
            } catch (InvocationTargetException e) {
                fail(m.getName() + Arrays.toString(args) + " threw " + e.getCause());
                return;
            }
        }
        due(m.getName() + " ends", 0, 0);
    }

    public static void main(String[] args) throws IllegalAccessException {
        for (int s = 0; s < STATES.length; s++) {
            named("no call throws, state " + s);
            for (Method m : BlankNote.class.getDeclaredMethods()) {
                if (Modifier.isPublic(m.getModifiers())) sweep(STATES[s], m);
            }
        }
        end();
    }
}
