import java.lang.reflect.InvocationTargetException;
import java.lang.reflect.Method;
import java.lang.reflect.Modifier;
import java.util.ArrayList;
import java.util.Comparator;
import java.util.List;
import java.util.Random;

/**
 * No call may ever throw or fail to end, for any arguments in any state (LANGUAGE.md, rule 7): the 512th call of an
 * object is no end of that, though what later ones answer is free. Answers are not looked at here.
 */
public final class AnyCallTest {
    private static final int OBJECTS = 40;
    private static final int CALLS = 5000;
    private static final int[] INTS = {
        Integer.MIN_VALUE, Integer.MIN_VALUE + 1, -1000, -10, -9, -2, -1, 48, 60, 61, 99, 100, 255, 256, 1 << 16,
        Integer.MAX_VALUE - 1, Integer.MAX_VALUE};
    private static final long[] LONGS = {
        Long.MIN_VALUE, -1, 0, 999, 1000, 999_999_999_999L, 1_000_000_000_000L, 1L << 32, Long.MAX_VALUE};
    private static final String[] MARKETS = {
        "M", "ML010", "MP0993", "ML413P3592", "ML010L910L411L513P0993P9092P0951P9070P4573",
        "ML013L113L213L313P0993P0993P0993P0993P0993", "ML992L891L793L690P9093P0993P5490P4591P3682"};

    private final Due due = new Due("AnyCallTest");
    private final Random random = new Random(20261118);
    private final List<Method> face = new ArrayList<>();

    public static void main(String[] args) {
        AnyCallTest test = new AnyCallTest();
        for (Method method : UnderLadders.class.getDeclaredMethods()) {
            if (Modifier.isPublic(method.getModifiers())) {
                test.face.add(method);
            }
        }
        // The machine tells methods in no order that holds; the names do not repeat.
        test.face.sort(Comparator.comparing(Method::getName));
        for (int i = 0; i < OBJECTS && !test.due.hasFailed(); i++) {
            test.useOne(i);
        }
        test.due.end();
    }

    private void useOne(int number) {
        UnderLadders x = new UnderLadders();
        for (int i = 0; i < CALLS && !due.hasFailed(); i++) {
            if (random.nextInt(100) == 0) {
                Due.write(x, MARKETS[random.nextInt(MARKETS.length)]);
                x.market();
            }
            call(x, face.get(random.nextInt(face.size())), "object " + number + ", call " + i + ": ");
        }
    }

    private void call(UnderLadders x, Method method, String told) {
        Object[] arguments = new Object[method.getParameterCount()];
        for (int i = 0; i < arguments.length; i++) {
            arguments[i] = drawFor(method.getParameterTypes()[i]);
        }
        try {
            method.invoke(x, arguments);
            due.yes(told + method.getName(), true);
        } catch (InvocationTargetException thrown) {
            due.yes(told + method.getName() + List.of(arguments) + " threw " + thrown.getCause(), false);
        } catch (IllegalAccessException hidden) {
            due.yes(told + method.getName() + " can not be called", false);
        }
    }

    private Object drawFor(Class<?> type) {
        if (type == boolean.class) {
            return random.nextBoolean();
        }
        if (type == long.class) {
            return random.nextBoolean() ? LONGS[random.nextInt(LONGS.length)] : drawRow();
        }
        switch (random.nextInt(8)) {
            case 0: return INTS[random.nextInt(INTS.length)];
            case 1: return random.nextInt();
            case 2: return random.nextInt(32);
            default: return random.nextInt(6);
        }
    }

    private long drawRow() {
        return random.nextBoolean() ? random.nextLong() : Math.floorMod(random.nextLong(), 1_000_000_000_000L);
    }
}
