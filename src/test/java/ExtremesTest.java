import java.lang.reflect.Method;
import java.lang.reflect.Modifier;
import java.util.Arrays;
import java.util.Comparator;
import java.util.Random;

/** Every call with numbers far out and at the edges, in runs of 512: none may throw, each answers as the model does. */
final class ExtremesTest {
    private static final int[] NUMBERS = {Integer.MIN_VALUE, Integer.MIN_VALUE + 1, -1000000, -2, -1, 0, 1, 2, 3, 4, 5, 6,
        7, 8, 9, 10, 15, 16, 30, 31, 35, 36, 40, 41, 60, 61, 99, 100, 200, 201, 900, 999, 1000, 1000000,
        Integer.MAX_VALUE - 1, Integer.MAX_VALUE};
    private static final String SEA = "sea 4 3 tides 2;shore 0 0 throws east walks 0;shore 3 0 throws west walks 0 1;"
        + "shore 1 2 throws north walks 1;rock 3 2;current 1 0 2 3;current 2 0 2 4;current 1 1 2 1;current 2 1 3 2;"
        + "current 2 2 2 1;moon 3 springs 1;wind : x + y * tide - moon;keeps : passed > 2 and heavy = 1;";

    public static void main(String[] args) throws ReflectiveOperationException {
        Kit kit = new Kit("ExtremesTest");
        Method[] calls = Arrays.stream(BottlePost.class.getDeclaredMethods())
            .filter(m -> Modifier.isPublic(m.getModifiers()))
            .sorted(Comparator.comparing(Method::getName)).toArray(Method[]::new);
        for (long seed = 0; seed < 60; seed++) {
            run(kit, new Random(seed), calls, seed);
        }
        kit.end();
    }

    private static void run(Kit kit, Random random, Method[] calls, long seed) throws ReflectiveOperationException {
        BottlePost x = new BottlePost();
        Model m = new Model();
        for (int i = 0; i < 500; i++) {
            if (i == 40 || random.nextInt(200) == 0) {
                for (int[] r : Kit.twenties(Kit.bytes(SEA))) {
                    kit.due("feed", x.feed(r[0], r[1], r[2], r[3], r[4]), m.feed(r[0], r[1], r[2], r[3], r[4]));
                }
                kit.due("sea", x.sea(SEA.length()), m.sea(SEA.length()));
            }
            Method call = calls[random.nextInt(calls.length)];
            Object[] with = new Object[call.getParameterCount()];
            for (int a = 0; a < with.length; a++) {
                with[a] = argument(random, call.getParameterTypes()[a]);
            }
            Method due = Model.class.getDeclaredMethod(call.getName(), call.getParameterTypes());
            long got = ((Number) call.invoke(x, with)).longValue();
            long want = ((Number) due.invoke(m, with)).longValue();
            kit.due("run " + seed + "." + i + ": " + call.getName() + Arrays.toString(with), got, want);
        }
    }

    private static Object argument(Random random, Class<?> type) {
        if (type == boolean.class) {
            return random.nextBoolean();
        }
        // Small ones are drawn more often, or next to nothing would be done.
        int n = random.nextInt(3) > 0 ? random.nextInt(5) - 1 : NUMBERS[random.nextInt(NUMBERS.length)];
        if (type == long.class) {
            return random.nextInt(9) == 0 ? random.nextLong() : (long) n;
        }
        return n;
    }
}
