import java.io.IOException;
import java.lang.reflect.Method;
import java.nio.file.Files;
import java.nio.file.Path;
import java.util.ArrayList;
import java.util.Arrays;
import java.util.List;
import java.util.Random;
import java.util.regex.Matcher;
import java.util.regex.Pattern;

/**
 * All promises beside Model: runs of 512 random calls, most of them of one theme, their arguments mostly such
 * as can be, at times just beside what can be; each answer is the model's.
 */
public final class ModelTest {
    private static final int RUNS = 1200;
    private static final int CALLS = 512;

    private static final List<List<String>> THEMES = List.of(
        List.of("person", "kind", "part", "fit", "car", "car", "sell", "sell", "owner", "owner", "cars", "burns",
            "clock", "factor", "force"),
        List.of("kind", "car", "crash", "rule", "must", "must", "fails", "owed", "inForce", "clock", "fit", "part"),
        List.of("person", "kind", "test", "test", "reads", "reads", "knew", "knew", "knewFails", "clock", "rule",
            "must"),
        List.of("person", "kind", "car", "crash", "crash", "crash", "odd", "expected", "expected", "clock"),
        List.of("kind", "car", "crash", "crash", "jury", "jury", "part", "test", "reads", "rule", "fit", "clock",
            "mend"),
        List.of("memo", "row", "row", "row", "row", "memoSum", "turnsAt", "turnsAt", "beside"),
        List.of("step", "steps", "steps", "putOff", "change", "cheap"),
        List.of("car", "car", "sell", "call", "letters", "letters", "reached", "mend", "mend", "left", "moves", "clock",
            "crash", "cars"),
        List.of("saver", "overlap", "best", "best", "bests"));

    /** A call of the face: its method, the model's, and the names of its parameters. */
    private record Call(Method method, Method model, List<String> names) {
    }

    private final Random random;
    private final TankBehind x = new TankBehind();
    private final Model model = new Model();
    private final StringBuilder told = new StringBuilder();
    private int calls;
    private boolean right = true;

    private ModelTest(int seed) {
        random = new Random(seed);
    }

    public static void main(String[] args) throws IOException {
        List<Call> face = face();
        Expect.due("calls of the face", face.size(), 48);
        for (int seed = 0; seed < RUNS; seed++) {
            new ModelTest(seed).run(face);
        }
        Expect.finish("ModelTest");
    }

    private static List<Call> face() throws IOException {
        List<Call> face = new ArrayList<>();
        String doc = Files.readString(Path.of("../shared/DOC.md"));
        Matcher line = Pattern.compile("    public (?:int|long|boolean) (\\w+)\\((.+)\\);").matcher(doc);
        while (line.find()) {
            List<String> names = new ArrayList<>();
            for (String parameter : line.group(2).split(", ")) {
                names.add(parameter.substring(parameter.indexOf(' ') + 1));
            }
            face.add(new Call(named(TankBehind.class, line.group(1), names.size()),
                named(Model.class, line.group(1), names.size()), names));
        }
        return face;
    }

    private static Method named(Class<?> in, String name, int parameters) {
        return Arrays.stream(in.getDeclaredMethods())
            .filter(method -> method.getName().equals(name) && method.getParameterCount() == parameters)
            .findFirst().orElseThrow();
    }

    private void run(List<Call> face) {
        List<String> theme = THEMES.get(random.nextInt(THEMES.size()));
        int mostPersons = 1 + random.nextInt(5);
        int mostKinds = 1 + random.nextInt(4);
        int slow = 1 + random.nextInt(8);
        make(find(face, "person"), new Object[] {1});
        make(find(face, "kind"), new Object[] {1, 400, 900, 100});
        while (right && calls < CALLS) {
            boolean ofTheme = random.nextInt(5) != 0;
            String name = theme.get(random.nextInt(theme.size()));
            Call call = ofTheme ? find(face, name) : face.get(random.nextInt(face.size()));
            name = call.method.getName();
            if (name.equals("rule") && random.nextInt(4) != 0) {
                tellRule(face);
            } else if (!isEnough(name, mostPersons, mostKinds, slow) || random.nextInt(30) == 0) {
                make(call, null);
            }
        }
    }

    /** Few persons and kinds, and a NOW that stays small, let the calls meet what was told. */
    private boolean isEnough(String name, int mostPersons, int mostKinds, int slow) {
        return name.equals("person") && model.count(1) >= mostPersons
            || name.equals("kind") && model.count(2) >= mostKinds
            || name.equals("rule") && model.count(5) >= 2 && random.nextInt(20) != 0
            || name.equals("clock") && random.nextInt(slow) != 0;
    }

    private void tellRule(List<Call> face) {
        String text = new RuleWriter(random).rule();
        if (text.length() > 200) {
            return;
        }
        make(find(face, "end"), new Object[] {0});
        byte[] bytes = Arrays.copyOf(text.getBytes(java.nio.charset.StandardCharsets.ISO_8859_1), 400);
        for (int from = 0; from < text.length(); from += 20) {
            Object[] numbers = new Object[5];
            for (int i = 0; i < 5; i++) {
                numbers[i] = java.nio.ByteBuffer.wrap(bytes).getInt(from + 4 * i);
            }
            make(find(face, "feed"), numbers);
        }
        make(find(face, "end"), new Object[] {text.length()});
        make(find(face, "rule"), new Object[] {model.count(0) + (random.nextBoolean() ? 0 : random.nextInt(5))});
    }

    private static Call find(List<Call> face, String name) {
        return face.stream().filter(call -> call.method.getName().equals(name)).findFirst().orElseThrow();
    }

    private void make(Call call, Object[] given) {
        if (!right || calls == CALLS) {
            return;
        }
        calls++;
        Object[] arguments = given == null ? arguments(call) : given;
        String text = call.method.getName() + Arrays.toString(arguments);
        told.append(text).append('\n');
        try {
            Object got = call.method.invoke(x, arguments);
            Object want = call.model.invoke(model, arguments);
            if (!got.equals(want)) {
                right = false;
                Expect.due(text + " as call " + calls + " behind\n" + told, number(got), number(want));
            }
        } catch (ReflectiveOperationException e) {
            right = false;
            Expect.due(text + " threw " + e.getCause() + " behind\n" + told, 1, 0);
        }
    }

    private static long number(Object answer) {
        return answer instanceof Boolean ? (Boolean) answer ? 1 : 0 : ((Number) answer).longValue();
    }

    private Object[] arguments(Call call) {
        Class<?>[] types = call.method.getParameterTypes();
        Object[] arguments = new Object[types.length];
        for (int i = 0; i < types.length; i++) {
            arguments[i] = types[i] == boolean.class ? (Object) random.nextBoolean()
                : (Object) argument(call.method.getName(), call.names.get(i));
        }
        return arguments;
    }

    private int argument(String call, String name) {
        switch (name) {
            case "month":
            case "known":
            case "made":
                return call.equals("clock") ? model.count(0) + any(0, 0, 1, 1, 2, 3, -1) : month();
            case "firm":
                return beside(-1, 3);
            case "sort":
                return beside(0, 2);
            case "n":
                return call.equals("end") ? beside(0, model.count(11)) : any(1, 50, 99, 100, 101, 500, 999, 1000, 0);
            case "speed":
                return random.nextInt(4) == 0 ? any(0, 1, 49, 50, 99, 100, 199, 200, 201, -1) : random.nextInt(70);
            case "dead":
                return beside(0, 9);
            case "owner":
            case "to":
            case "person":
                return beside(0, model.count(1) - 1);
            case "car":
                return beside(0, model.count(4) - 1);
            case "part":
                return call.equals("expected") ? beside(0, 3)
                    : beside(call.equals("burns") ? -1 : 0, model.count(3) - 1);
            case "test":
                return beside(0, model.count(6) - 1);
            case "crash":
                return beside(0, model.count(7) - 1);
            case "memo":
            case "other":
                return beside(0, model.count(8) - 1);
            case "step":
                return beside(0, model.count(9) - 1);
            case "call":
                return beside(0, model.count(10) - 1);
            case "what":
                return beside(0, call.equals("count") ? 11 : call.equals("cars") ? 3 : call.equals("steps") ? 2 : 1);
            case "row":
                return beside(0, 4);
            case "rows":
                return beside(0, 63);
            case "count":
                return any(0, 1, 2, 3, 5, 10, 10, 20, 999, 999999, 1000000, -1);
            case "months":
                return any(0, 0, 1, 2, 3, 5, 8, 13, 99, 100, -1);
            case "behind":
                return random.nextInt(12) == 0 ? any(-1, 1 << model.count(9), Integer.MIN_VALUE)
                    : random.nextInt() & random.nextInt() & (1 << model.count(9)) - 1;
            case "lives":
                return any(0, 1, 2, 3, 4, 5, 7, 998, 999, 1000, -1);
            case "coins":
                return coins(call);
            default:
                return others(call, name);
        }
    }

    private int others(String call, String name) {
        switch (call) {
            case "kind":
                return name.equals("kind") ? 0 : any(0, 1, 100, 400, 900, 1600, 2500, 5000, 99999, 100000, -1);
            case "part":
                return any(0, 1, 100, 300, 500, 900, 2000, 9999, 10000, -1);
            case "feed":
                return random.nextInt();
            case "overlap":
                return beside(0, 8);
            case "cars":
                return beside(0, model.count(4) - 1);
            case "steps":
                return beside(0, model.count(9) - 1);
            case "left":
                return beside(-1, 4);
            default:
                return name.equals("kind") ? beside(0, model.count(2) - 1) : month();
        }
    }

    private int coins(String call) {
        switch (call) {
            case "part":
                return any(0, 1, 11, 20, 9998, 9999, 10000, -1);
            case "row":
                return any(0, 1, 2, 3, 5, 10, 10, 20, 999, 9999999, 10000000, -1);
            case "step":
                return any(0, 1, 2, 5, 7, 9999, 10000, -1);
            case "cheap":
                return any(0, 1, 2, 5, 6, 7, 15, 18, 20, 21, 45, 62, 63, 89990, 89991, -1);
            case "saver":
                return any(0, 1, 2, 3, 5, 8, 10, 99999, 100000, -1);
            default:
                return any(0, 1, 5, 10, 20, 99999, 199998, 999999, 1000000, -1);
        }
    }

    private int any(int... of) {
        return of[random.nextInt(of.length)];
    }

    /** Mostly one of least to most, at times just beside them. */
    private int beside(int least, int most) {
        int n = random.nextInt(25);
        return n == 0 ? least - 1 : n == 1 || most < least ? most + 1 : least + random.nextInt(most - least + 1);
    }

    private int month() {
        int now = model.count(0);
        return random.nextInt(12) == 0 ? any(-1, 0, 599, 600, 598) : any(now, now, now - 1, now - 2, now + 1, now + 3,
            random.nextInt(now + 1));
    }
}
