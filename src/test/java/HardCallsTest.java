import java.lang.reflect.InvocationTargetException;
import java.lang.reflect.Method;
import java.lang.reflect.Modifier;
import java.util.ArrayList;
import java.util.Arrays;
import java.util.Comparator;
import java.util.List;
import java.util.Random;

/** Any calls in any state: none throws, the same calls answer the same, what is refused changes nothing. */
public final class HardCallsTest {
    private static final Due DUE = new Due("HardCallsTest");
    private static final int[] WILD = {Integer.MIN_VALUE, Integer.MIN_VALUE + 1, -1000, -100, -12, -3, -2, -1, 6, 7, 8, 9,
        10, 12, 59, 60, 61, 99, 100, 119, 120, 255, 256, 9999, 10000, 1 << 16, Integer.MAX_VALUE - 2, Integer.MAX_VALUE};
    private static final String SIGNS = "sstal0123459;?|&<=>+-*/%!!((()))";
    private static final String[] LAWS = {"s*4", "12", "11-s", "l?9-a;7", "a%3?12;0", "t=1?s;t/2+9"};

    public static void main(String[] args) {
        List<Method> calls = new ArrayList<>();
        for (Method m : LastMender.class.getDeclaredMethods()) {
            if (Modifier.isPublic(m.getModifiers())) calls.add(m);
        }
        calls.sort(Comparator.comparing(Method::getName));
        DUE.is("the face has 35 calls", calls.size(), 35);
        for (int seed = 1; seed <= 120; seed++) run(calls, new Random(seed * 0x9E3779B97F4A7C15L), seed);
        DUE.end();
    }

    private static void run(List<Method> calls, Random random, int seed) {
        LastMender x = new LastMender(), same = new LastMender();
        int wild = seed % 3 == 0 ? 2 : 12;
        for (int i = 0; i < 512; i++) {
            if (random.nextInt(20) == 0) {
                String law = LAWS[random.nextInt(LAWS.length)];
                Due.law(x, law);
                Due.law(same, law);
            }
            Method m = calls.get(random.nextInt(calls.size()));
            Object[] with = arguments(m, random, wild);
            String call = "run " + seed + ": " + m.getName() + Arrays.toString(with);
            long[] before = snapshot(x);
            long answer = answerOf(call, x, m, with);
            DUE.is(call + " again", answerOf(call, same, m, with), answer);
            if (answer < 0 && !"act law of".contains(m.getName())) {
                DUE.is(call + " changes nothing", Arrays.equals(before, snapshot(x)) ? 1 : 0, 1);
            }
        }
    }

    private static Object[] arguments(Method m, Random random, int wild) {
        Class<?>[] types = m.getParameterTypes();
        Object[] with = new Object[types.length];
        for (int i = 0; i < types.length; i++) {
            int v = random.nextInt(wild) == 0 ? WILD[random.nextInt(WILD.length)] : random.nextInt(7);
            if (random.nextInt(5) == 0) v = random.nextInt(70);
            if (random.nextInt(25) == 0) v = random.nextInt();
            if (m.getName().equals("feed")) v = SIGNS.charAt(random.nextInt(SIGNS.length()));
            if (m.getName().equals("thing") && i == 1) v = random.nextInt(10001);
            if (m.getName().equals("ruined") && i == 1) v = -random.nextInt(1001);
            with[i] = types[i] == long.class ? (Object) (random.nextBoolean() ? (long) v : random.nextLong()) : (Object) v;
        }
        return with;
    }

    private static long answerOf(String call, LastMender x, Method m, Object[] with) {
        try {
            return ((Number) m.invoke(x, with)).longValue();
        } catch (InvocationTargetException | IllegalAccessException e) {
            DUE.is(call + " threw " + e.getCause(), 1, 0);
            return 0;
        }
    }

    private static long[] snapshot(LastMender x) {
        long[] all = new long[900];
        int n = 0;
        for (int what = 0; what < 8; what++) all[n++] = x.count(what);
        for (int p = 0; p < 5; p++) {
            for (int what = 0; what < 6; what++) all[n++] = x.of(p, what);
        }
        for (int t = 0; t < 6; t++) {
            for (int what = 10; what < 20; what++) all[n++] = x.of(t, what);
            for (int i = 0; i < 8; i++) all[n++] = x.layer(t, i);
            all[n++] = x.paid(t);
        }
        for (int shelf = 0; shelf < 6; shelf++) {
            all[n++] = x.taken(shelf, 0);
            for (int i = 0; i < 60; i++) all[n++] = x.element(shelf, i);
        }
        for (int i = 0; i < 24; i++) all[n++] = x.trace(i);
        return all;
    }
}
