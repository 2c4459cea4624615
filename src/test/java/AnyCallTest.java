import java.lang.reflect.InvocationTargetException;
import java.lang.reflect.Method;
import java.lang.reflect.Modifier;
import java.util.Arrays;
import java.util.Comparator;
import java.util.Random;

/** No call throws, whatever it is given and whatever came before it: 512 calls on each object, by lot, with numbers far off among those that are taken. */
public final class AnyCallTest {
    private static final int OBJECTS = 600;
    private static final int CALLS = 512;
    private static final int[] FAR = {Integer.MIN_VALUE, Integer.MIN_VALUE + 1, -4096, -61, -60, -3, -2, -1, 60, 61, 99, 100, 4095, 4096, 9999, 10000,
        Integer.MAX_VALUE - 3, Integer.MAX_VALUE - 1, Integer.MAX_VALUE};

    public static void main(String[] args) throws IllegalAccessException {
        Check check = new Check("AnyCallTest");
        Method[] calls = Arrays.stream(PairedLines.class.getDeclaredMethods()).filter(m -> Modifier.isPublic(m.getModifiers()))
            .sorted(Comparator.comparing(Method::getName)).toArray(Method[]::new);
        Random random = new Random(7);
        for (int i = 0; i < OBJECTS; i++) {
            PairedLines x = start(i);
            int begun = i % 4 == 0 ? 0 : 60;
            for (int c = begun; c < CALLS; c++) {
                ask(check, x, calls[random.nextInt(calls.length)], random);
            }
            check.holds("POINTS", x.count(0) >= 0 && x.count(0) <= 12);
            check.holds("LINES", x.count(1) >= 0 && x.count(1) <= 40);
            check.holds("NODES", x.count(3) >= 0 && x.count(3) <= 300);
        }
        check.end();
    }

    private static PairedLines start(int i) {
        if (i % 4 == 0) {
            return new PairedLines();
        }
        PairedLines x = i % 4 == 1 ? Edges.forty() : i % 4 == 2 ? Check.whole(7, i % 6, 9999) : Edges.rich();
        for (int s = 0; s < 4; s++) {
            x.sheet(s, s, 60 - 15 * s);
        }
        return x;
    }

    private static void ask(Check check, PairedLines x, Method call, Random random) throws IllegalAccessException {
        Class<?>[] types = call.getParameterTypes();
        Object[] given = new Object[types.length];
        for (int i = 0; i < given.length; i++) {
            given[i] = types[i] == long.class ? (Object) wide(random) : (Object) one(random);
        }
        // a net that is begun anew is soon empty, so that it is seldom
        if (call.getName().equals("points") && random.nextInt(20) > 0) {
            return;
        }
        try {
            call.invoke(x, given);
            check.holds("ended", true);
        } catch (InvocationTargetException thrown) {
            check.holds(call.getName() + Arrays.toString(given) + " threw " + thrown.getCause(), false);
        }
    }

    private static int one(Random random) {
        int way = random.nextInt(12);
        if (way == 0) {
            return FAR[random.nextInt(FAR.length)];
        }
        return way == 1 ? random.nextInt() : way < 4 ? random.nextInt(62) : way < 8 ? random.nextInt(12) : random.nextInt(4);
    }

    private static long wide(Random random) {
        int way = random.nextInt(4);
        return way == 0 ? random.nextLong() : way == 1 ? 1L << random.nextInt(64) : way == 2 ? random.nextInt() : random.nextInt(5);
    }
}
