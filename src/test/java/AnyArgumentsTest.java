import java.lang.reflect.InvocationTargetException;
import java.lang.reflect.Method;
import java.lang.reflect.Modifier;
import java.util.ArrayList;
import java.util.Arrays;
import java.util.Comparator;
import java.util.List;
import java.util.Random;

/** Any arguments in any state: a call throws nothing but what its signature lists, and never by itself. */
public final class AnyArgumentsTest {
    private static final int[] EDGES = {Integer.MIN_VALUE, Integer.MIN_VALUE + 1, -100000, -2, -1, 0, 1, 2, 3, 4, 5, 6, 7, 8,
        12, 20, 63, 64, 65, 127, 128, 319, 320, 399, 400, 401, 500, 501, 799, 800, 801, 999, 1000, 1001, 1999, 2000, 2001,
        19999, 20000, 99998, 99999, 100000, Integer.MAX_VALUE - 1, Integer.MAX_VALUE};
    private static final String[] ARRAYS = {
        "disks 3 stripes 1 base 1 seek 0; rebuild 0 1 0 window 1 cache 0;",
        "disks 3 stripes 1 base 50 seek 99; rebuild 1000 100 1000 window 8 cache 64; tenant 1 1 1; slack 0;",
        "disks 4 stripes 9 base 3 seek 16; rebuild 1 1 1 window 8 cache 3; tenant 0 1 0; tenant 1000 1 0; slack 500;",
        "disks 6 stripes 64 base 1 seek 1; rebuild 30 10 0 window 8 cache 64; tenant 9 9 0; tenant 9 9 50; tenant 0 9 0;"
            + "tenant 0 1 0; tenant 5 1 9;"};

    private final List<Method> methods = new ArrayList<>();
    private final Random random;

    private AnyArgumentsTest(int seed) {
        random = new Random(seed);
        for (Method m : RebuildScheduler.class.getDeclaredMethods()) {
            if (Modifier.isPublic(m.getModifiers())) {
                methods.add(m);
            }
        }
        methods.sort(Comparator.comparing(Method::getName));
    }

    public static void main(String[] args) {
        for (int seed = 0; seed < 200; seed++) {
            new AnyArgumentsTest(seed).live();
        }
        Check.end();
    }

    private void live() {
        RebuildScheduler x = new RebuildScheduler();
        for (int i = random.nextInt(9); i > 0; i--) {
            call(x, methods.get(random.nextInt(methods.size())));
        }
        for (int i = 0; i < 450; i++) {
            if (random.nextInt(60) == 0) {
                load(x);
            } else if (random.nextInt(3) == 0 && x.stripeCount() > 0) {
                submit(x);
            } else {
                call(x, methods.get(random.nextInt(methods.size())));
            }
        }
    }

    private void load(RebuildScheduler x) {
        try {
            x.loadArray(0);
        } catch (IllegalStateException e) {
            // the buffer is empty now
        }
        x.loadArray(Check.feed(x, ARRAYS[random.nextInt(ARRAYS.length)]));
        x.advance(1 + random.nextInt(2000));
    }

    private void submit(RebuildScheduler x) {
        if (x.tenantCount() > 1 && x.requestCount() < 400) {
            int unit = random.nextInt(x.stripeCount() * (x.diskCount() - 1));
            x.submit(1 + random.nextInt(x.tenantCount() - 1), unit, random.nextBoolean(), random.nextBoolean() ? -1 : x.now());
        }
    }

    private Object argument(Class<?> type) {
        if (type == boolean.class) {
            return random.nextBoolean();
        }
        return random.nextInt(9) == 0 ? random.nextInt() : EDGES[random.nextInt(EDGES.length)];
    }

    private void call(RebuildScheduler x, Method method) {
        Class<?>[] types = method.getParameterTypes();
        Object[] given = new Object[types.length];
        for (int i = 0; i < types.length; i++) {
            given[i] = argument(types[i]);
        }
        try {
            method.invoke(x, given);
        } catch (InvocationTargetException e) {
            boolean isListed = Arrays.asList(method.getExceptionTypes()).contains(e.getCause().getClass());
            if (!isListed) {
                Check.fail(method.getName() + Arrays.toString(given) + " threw " + e.getCause());
            }
        } catch (IllegalAccessException e) {
            throw new IllegalStateException(e);
        }
    }
}
