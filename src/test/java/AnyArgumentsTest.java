import java.lang.reflect.Method;
import java.util.Arrays;
import java.util.Random;

/** Every call, for any arguments in any state, answers: nothing is thrown, and what is refused changes no count. */
public final class AnyArgumentsTest {
    private static final int[] EDGES = {Integer.MIN_VALUE, Integer.MIN_VALUE + 1, -600, -2, -1, 0, 1, 2, 3, 9, 31, 32,
        60, 63, 64, 199, 200, 201, 300, 400, 599, 600, 999, 9999, 99999, 999999, Integer.MAX_VALUE};
    private static final String[] RULES = {"crash 0 20 + month; crash 1 35 if kind = 0; give 100 * dead + part; most 150",
        "recall if fires > 0; crash 0 cars * 7; crash 1 speed + 31; crash 2 month", "give knew * 5 + month + speed"};

    private AnyArgumentsTest() {
    }

    public static void main(String[] args) {
        Method[] methods = Arrays.stream(TankBehind.class.getDeclaredMethods())
            .filter(method -> java.lang.reflect.Modifier.isPublic(method.getModifiers()))
            .sorted((a, b) -> a.toString().compareTo(b.toString())).toArray(Method[]::new);
        Random random = new Random(512);
        for (int n = 0; n < 400; n++) {
            TankBehind x = new TankBehind();
            if (n % 4 != 0) {
                fill(x, random);
            }
            for (int i = 0; i < 512; i++) {
                call(x, methods[random.nextInt(methods.length)], random, n % 3);
            }
        }
        Expect.finish("AnyArgumentsTest");
    }

    private static void fill(TankBehind x, Random random) {
        for (int i = 0; i < 6; i++) {
            x.person(i % 5 - 1);
            x.kind(i % 4, 300 * i, 500, 100);
            x.part(i, 100 * i, 50, 400);
        }
        Expect.tell(x, RULES[random.nextInt(3)], random.nextInt(4));
        Expect.tell(x, RULES[random.nextInt(3)], random.nextInt(9));
        for (int i = 0; i < 30; i++) {
            x.clock(i / 3);
            x.car(random.nextInt(3), random.nextInt(3), random.nextInt(6));
            x.test(random.nextInt(3), random.nextInt(3), random.nextInt(60), random.nextBoolean());
            x.reads(random.nextInt(i + 1), random.nextInt(6));
            x.crash(random.nextInt(i + 1), random.nextInt(10), random.nextInt(3), random.nextInt(150),
                random.nextInt(10), random.nextBoolean(), random.nextInt(4) == 0);
            x.fit(random.nextInt(3), random.nextInt(6), random.nextInt(10));
            x.memo(i % 6);
            x.row(i % 7, random.nextBoolean(), random.nextInt(99), random.nextInt(99));
            x.step(random.nextInt(20), i % 5 - 1, random.nextInt() & (1 << x.count(9)) - 1, 9);
            x.saver(random.nextInt(99), random.nextInt(99));
            x.call(random.nextInt(3), 0, random.nextInt(20), random.nextInt(6));
            x.letters(random.nextInt(5));
        }
    }

    private static void call(TankBehind x, Method method, Random random, int range) {
        Class<?>[] types = method.getParameterTypes();
        Object[] arguments = new Object[types.length];
        for (int i = 0; i < types.length; i++) {
            arguments[i] = types[i] == boolean.class ? (Object) random.nextBoolean() : (Object) number(random, range);
        }
        int[] before = counts(x);
        Object answer;
        try {
            answer = method.invoke(x, arguments);
        } catch (ReflectiveOperationException e) {
            Expect.due(method.getName() + Arrays.toString(arguments) + " threw " + e.getCause(), 1, 0);
            return;
        }
        boolean refused = answer.equals(-1) || answer.equals(false);
        if (refused && !Arrays.equals(before, counts(x))) {
            Expect.due(method.getName() + Arrays.toString(arguments) + " was refused and changed a count", 1, 0);
        }
    }

    private static int number(Random random, int range) {
        if (range == 0) {
            return random.nextInt(8) == 0 ? random.nextInt() : EDGES[random.nextInt(EDGES.length)];
        }
        return range == 1 && random.nextInt(3) == 0 ? EDGES[random.nextInt(EDGES.length)] : random.nextInt(12) - 1;
    }

    private static int[] counts(TankBehind x) {
        int[] counts = new int[12];
        for (int what = 0; what < 12; what++) {
            counts[what] = x.count(what);
        }
        return counts;
    }
}
