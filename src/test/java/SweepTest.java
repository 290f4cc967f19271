import java.lang.reflect.InvocationTargetException;
import java.lang.reflect.Method;
import java.lang.reflect.Modifier;
import java.util.Arrays;
import java.util.Comparator;
import java.util.List;

/** Each call with all numbers at and beside its bounds, together: none may throw, and the answers are the Mirror's. */
public final class SweepTest {
    private static final int[] INTS = {Integer.MIN_VALUE, -2, -1, 0, 1, 3, 4, 6, Integer.MAX_VALUE};
    /** Where many numbers meet, these are enough. */
    private static final int[] FEW_INTS = {Integer.MIN_VALUE, -1, 0, 1, 4, Integer.MAX_VALUE};
    private static final int MANY = 4;
    private static final long[] LONGS = {Long.MIN_VALUE, Long.MIN_VALUE + 1, Integer.MIN_VALUE - 1L, -3, -1, 0, 1,
        1L << 31, 1L << 62, Long.MAX_VALUE};

    private static final String[] STORES = {
        "",
        "store(1, 2);weight(1, 0);order(0, 2);keep(0);tell(4, 9);see(0, 2);plan(0, 3);day(3);image();tape(0, 0, 4)",
        "store(2, 1);order(0, 1);keep(3);see(1, 0);plan(2, 3);pay(-2147483640);tape(1, 3, 60);tape(4, 0, 4);tape(5, 0, 0)",
    };

    private final Checks checks;
    private final ReorderMind mind = new ReorderMind();
    private final Mirror mirror = new Mirror();

    private SweepTest(Checks checks) {
        this.checks = checks;
    }

    private static List<Method> calls() {
        return Arrays.stream(ReorderMind.class.getDeclaredMethods()).filter(m -> Modifier.isPublic(m.getModifiers()))
                .sorted(Comparator.comparing(Method::getName)).toList();
    }

    private void tell(String told) {
        String name = told.substring(0, told.indexOf('('));
        String inside = told.substring(name.length() + 1, told.length() - 1);
        String[] words = inside.isEmpty() ? new String[0] : inside.split(", ");
        Method call = calls().stream().filter(m -> m.getName().equals(name)).findFirst().orElseThrow();
        Object[] numbers = Arrays.stream(words).map(Integer::valueOf).toArray();
        compare(call, numbers);
    }

    private void sweep(Method call, Object[] numbers, int at) {
        if (at == numbers.length) {
            compare(call, numbers);
            return;
        }
        if (call.getParameterTypes()[at] == long.class) {
            for (long v : LONGS) sweepFrom(call, numbers, at, v);
        } else {
            for (int v : numbers.length >= MANY ? FEW_INTS : INTS) sweepFrom(call, numbers, at, v);
        }
    }

    private void sweepFrom(Method call, Object[] numbers, int at, Object v) {
        numbers[at] = v;
        sweep(call, numbers, at + 1);
    }

    private void compare(Method call, Object[] numbers) {
        String told = call.getName() + Arrays.toString(numbers);
        try {
            Method other = Mirror.class.getDeclaredMethod(call.getName(), call.getParameterTypes());
            long got = ((Number) call.invoke(mind, numbers)).longValue();
            long want = ((Number) other.invoke(mirror, numbers)).longValue();
            checks.due(told, got, want);
        } catch (InvocationTargetException e) {
            checks.that(false, told + " threw " + e.getCause());
        } catch (NoSuchMethodException | IllegalAccessException e) {
            checks.that(false, told + " can't be called: " + e);
        }
    }

    public static void main(String[] args) {
        Checks checks = new Checks("SweepTest");
        for (String store : STORES) {
            for (Method call : calls()) {
                SweepTest one = new SweepTest(checks);
                for (String told : store.split(";")) if (!told.isEmpty()) one.tell(told);
                one.sweep(call, new Object[call.getParameterCount()], 0);
                for (int what = 0; what <= 15; what++) {
                    checks.due("told(" + what + ") behind " + call.getName(), one.mind.told(what), one.mirror.told(what));
                }
            }
        }
        checks.end();
    }
}
