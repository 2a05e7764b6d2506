import java.lang.reflect.InvocationTargetException;
import java.lang.reflect.Method;
import java.util.Arrays;
import java.util.Comparator;
import java.util.Random;

/** Any calls with any arguments in any state: none throws, and the same calls always give the same answers. */
public final class FuzzTest {
    private static final Check CHECK = new Check();
    private static final int[] ODD = {Integer.MIN_VALUE, Integer.MIN_VALUE + 1, -1000, -8, -2, -1, 0, 1, 2, 3, 4, 5, 6, 7, 8, 11, 12, 13,
        20, 21, 30, 31, 32, 33, 59, 60, 61, 63, 64, 300, 301, 599, 600, 601, 65536, 2000000000, 2000000001, Integer.MAX_VALUE - 1, Integer.MAX_VALUE};
    private static final String[] PARTS = {"choir years 12 law 3 odds 9;", "choir years 1 law 0 odds 0;", "choir years 5 law 2 odds 4;",
        "choir years 9 law 1 odds 10;", "wall bears 30 gives 9;", "wall bears 0 gives 1;", "stone room 60 wide 4 on 0;", "stone room 1 wide 1 on 0;",
        "stone room 17 wide 2 on 1;", "rain 20 of 5 at 0;", "rain 3 of 2 at 4;", "rain 1 of 1 at 11;", "tap 0 60 at 0;", "tap 1 3 at 4;", "tap 0 1"};

    public static void main(String[] args) throws Exception {
        Method[] methods = DrinkingStones.class.getDeclaredMethods();
        methods = Arrays.stream(methods).filter(m -> java.lang.reflect.Modifier.isPublic(m.getModifiers())).toArray(Method[]::new);
        Arrays.sort(methods, Comparator.comparing(Method::toString));
        for (int seed = 0; seed < 600; seed++) {
            long first = run(methods, seed);
            CHECK.eq("again, seed " + seed, run(methods, seed), first);
        }
        CHECK.end("FuzzTest");
    }

    private static long run(Method[] methods, int seed) throws Exception {
        Random random = new Random(seed);
        DrinkingStones x = new DrinkingStones();
        long all = 0;
        for (int call = 0; call < 512; call++) {
            if (random.nextInt(40) == 0 || call == 20) {
                all = all * 31 + tell(x, random);
            }
            Method m = methods[random.nextInt(methods.length)];
            // a choir() on an empty tape would leave too many runs without one
            if (m.getName().equals("choir") && random.nextInt(4) != 0) {
                continue;
            }
            Object[] with = new Object[m.getParameterCount()];
            for (int i = 0; i < with.length; i++) {
                int n = random.nextInt(3) == 0 ? ODD[random.nextInt(ODD.length)] : random.nextInt(5);
                with[i] = m.getParameterTypes()[i] == long.class ? (Object) (long) n : (Object) n;
            }
            try {
                all = all * 31 + ((Number) m.invoke(x, with)).longValue();
            } catch (InvocationTargetException e) {
                CHECK.eq(m.getName() + Arrays.toString(with) + ", seed " + seed + ": " + e.getCause(), 1, 0);
            }
        }
        return all;
    }

    private static int tell(DrinkingStones x, Random random) {
        x.end(0);
        StringBuilder b = new StringBuilder(PARTS[random.nextInt(4)]);
        if (random.nextInt(5) > 0) {
            b.append(PARTS[4]).append(PARTS[5]).append(PARTS[6]).append(PARTS[8]);
        }
        for (int i = random.nextInt(12); i > 0; i--) {
            b.append(PARTS[4 + random.nextInt(i == 1 ? 11 : 10)]);
        }
        Check.feed(x, b.toString());
        return x.choir();
    }
}
