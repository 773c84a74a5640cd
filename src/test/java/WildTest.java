import java.lang.reflect.InvocationTargetException;
import java.lang.reflect.Method;
import java.lang.reflect.Modifier;
import java.util.ArrayList;
import java.util.Comparator;
import java.util.List;
import java.util.NoSuchElementException;
import java.util.Random;

/** Any arguments in any state: nothing is thrown but what look() may throw. */
public final class WildTest {
    private static final int[] WILD = {Integer.MIN_VALUE, Integer.MIN_VALUE + 1, -100000, -256, -2, -1, 0, 1, 2, 3, 4,
        5, 6, 7, 8, 9, 10, 11, 12, 15, 16, 30, 31, 32, 40, 41, 50, 63, 64, 99, 100, 256, 300, 301, 700, 999, 3000, 9999,
        99999, 100000, 999999, 1000000, 1 << 25, 1 << 30, Integer.MAX_VALUE - 1, Integer.MAX_VALUE};
    private static final long[] ROWS = {0x10, 0x210, 0x3210, 0x43210, 0x543210, 0x9876543210L, 0x123456789L, 0x3120,
        0x0123, 0x123410L, -1L << 12 | 0x210, Long.MIN_VALUE | 0x3210, -1L << 40 | 0x9876543210L, Long.MIN_VALUE,
        Long.MAX_VALUE, -1, 0};

    private static final Check check = new Check();

    public static void main(String[] args) {
        List<Method> calls = new ArrayList<>();
        for (Method method : HalfHands.class.getDeclaredMethods()) {
            if (Modifier.isPublic(method.getModifiers())) {
                calls.add(method);
            }
        }
        calls.sort(Comparator.comparing(Method::getName));
        for (int seed = 0; seed < 300; seed++) {
            Random random = new Random(seed);
            HalfHands hands = new HalfHands();
            if (seed % 4 != 0) {
                Check.tell(hands, new RandomText(random).right(seed % 11));
            }
            for (int i = 0; i < 500; i++) {
                call(hands, calls.get(random.nextInt(calls.size())), random);
            }
        }
        check.end();
    }

    private static void call(HalfHands hands, Method method, Random random) {
        Object[] arguments = new Object[method.getParameterCount()];
        StringBuilder told = new StringBuilder(method.getName());
        for (int i = 0; i < arguments.length; i++) {
            boolean row = method.getParameterTypes()[i] == long.class;
            int small = random.nextInt(12);
            int number = random.nextBoolean() ? small : WILD[random.nextInt(WILD.length)];
            arguments[i] = row ? (Object) ROWS[random.nextInt(ROWS.length)] : (Object) number;
            told.append(' ').append(arguments[i]);
        }
        boolean throwsWell = true;
        try {
            method.invoke(hands, arguments);
        } catch (InvocationTargetException e) {
            Class<?> thrown = e.getCause().getClass();
            throwsWell = method.getName().equals("look")
                    && (thrown == IndexOutOfBoundsException.class || thrown == NoSuchElementException.class);
            told.append(": ").append(e.getCause());
        } catch (IllegalAccessException e) {
            throwsWell = false;
        }
        check.same(told.toString(), throwsWell, true);
    }
}
