import java.lang.reflect.InvocationTargetException;
import java.lang.reflect.Method;
import java.lang.reflect.Modifier;
import java.util.ArrayList;
import java.util.Comparator;
import java.util.List;
import java.util.Random;

/** Whatever is asked, in whatever state: an answer, never an exception. */
public final class WildTest {
    /** Some 60 calls set the state up: an object is used for 512. */
    private static final int RUNS = 150, CALLS = 450;
    private static final int[] EDGES = {Integer.MIN_VALUE, Integer.MIN_VALUE + 1, -1000, -100, -10, -2, -1, 0, 1, 2, 3, 4, 5, 6, 7, 8, 9,
        10, 11, 12, 13, 24, 25, 40, 44, 49, 50, 51, 59, 60, 61, 99, 100, 111, 120, 255, 256, 400, 404, 411, 412, 500, 1124, 1199, 1200,
        Integer.MAX_VALUE - 3, Integer.MAX_VALUE - 2, Integer.MAX_VALUE - 1, Integer.MAX_VALUE};

    public static void main(String[] args) throws Exception {
        List<Method> calls = new ArrayList<>();
        for (Method m : DoorsForThree.class.getDeclaredMethods()) {
            if (Modifier.isPublic(m.getModifiers())) {
                calls.add(m);
            }
        }
        calls.sort(Comparator.comparing(Method::getName));
        for (int seed = 1; seed <= RUNS; seed++) {
            run(calls, new Random(seed));
        }
        System.out.println(RUNS + " wild runs were answered");
    }

    private static void run(List<Method> calls, Random random) throws Exception {
        DoorsForThree x = new DoorsForThree();
        int full = random.nextInt(4);
        for (int i = 0; i < 12 && full > 0; i++) {
            x.door(1 + random.nextInt(24), random.nextInt(8));
        }
        for (int i = 0; i < 5 && full > 1; i++) {
            x.child(1 + random.nextInt(18), random.nextInt(8));
        }
        if (full > 2) {
            Due.law(x, "(-2048*1024*1024)/(n-1);s?w/(d-12)%a");
        }
        for (int call = 0; call < CALLS; call++) {
            Method m = calls.get(random.nextInt(calls.size()));
            Object[] given = new Object[m.getParameterCount()];
            for (int i = 0; i < given.length; i++) {
                int v = random.nextBoolean() ? EDGES[random.nextInt(EDGES.length)] : random.nextInt(30) - 2;
                if (m.getParameterTypes()[i] == long.class) {
                    given[i] = (long) v;
                } else {
                    given[i] = v;
                }
            }
            try {
                m.invoke(x, given);
            } catch (InvocationTargetException e) {
                System.out.println(m + " of " + List.of(given) + " threw " + e.getCause());
                System.exit(1);
            }
        }
    }
}
