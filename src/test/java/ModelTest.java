import java.lang.reflect.InvocationTargetException;
import java.lang.reflect.Method;
import java.util.ArrayList;
import java.util.Arrays;
import java.util.Comparator;
import java.util.List;
import java.util.Random;

/** Long runs of calls, drawn with fixed seeds, held against the Model; wild numbers among them. */
public final class ModelTest {
    private static final int RUNS = 400;
    private static final int DISPUTES = 3000;
    private static final int CALLS = 512;
    private static final int[] WILD = {
        -2, -1, 8, 9, 10, 11, 16, 20, 21, 255, 256, -1000, 1 << 20, Integer.MAX_VALUE, Integer.MIN_VALUE,
    };
    private static final String SIGNS = "*0123456789;:!>+abcdefghmnz";

    private final Random random;
    private final HallOfClaims subject = new HallOfClaims();
    private final Model model = new Model();
    private final List<String> calls = new ArrayList<>();
    private final int wildness;

    private ModelTest(long seed) {
        random = new Random(seed);
        wildness = random.nextInt(3) == 0 ? 10 : 60;
    }

    public static void main(String[] args) throws ReflectiveOperationException {
        for (int run = 0; run < RUNS; run++) {
            new ModelTest(run).run(run);
        }
        for (int run = 0; run < DISPUTES; run++) {
            new ModelTest(run).dispute();
        }
        Checks.end();
    }

    private void run(int run) throws ReflectiveOperationException {
        Method[] methods = HallOfClaims.class.getDeclaredMethods();
        List<Method> face = new ArrayList<>();
        for (Method method : methods) {
            if (java.lang.reflect.Modifier.isPublic(method.getModifiers())) {
                face.add(method);
            }
        }
        face.sort(Comparator.comparing(Method::getName));
        buildUp();
        while (calls.size() < CALLS) {
            Method method = face.get(random.nextInt(face.size()));
            if (method.getName().equals("hall")) {
                tellSome();
            } else if (!isDearAndRare(method.getName())) {
                call(run, method, arguments(method));
            }
        }
    }

    /** Eight claims of which the last few stand alone, so that long games are won at times. */
    private void dispute() {
        int alone = 1 + random.nextInt(2);
        int odds = 3 + random.nextInt(3);
        for (int i = 0; i < 8; i++) {
            both("claims", 0, random.nextInt(3), 0);
        }
        int[] places = random.ints(0, 8).distinct().limit(8).toArray();
        for (int from = 0; from < 8; from++) {
            for (int to = 0; to < 8 - alone; to++) {
                if (from != to && random.nextInt(from < 8 - alone ? odds : 7) == 0) {
                    both("attacks", places[from], places[to]);
                }
            }
        }
        for (int claim = 0; claim < 8; claim++) {
            both("game", claim, 0);
            both("game", claim, 1);
            for (int other = 0; other < 8; other++) {
                both("answer", claim, other);
            }
        }
        for (int sort = 0; sort < 6; sort++) {
            both("sets", sort, -1);
            both("sets", sort, 0);
        }
        both("ideal");
    }

    /** Claims and what is between them, so that the runs don't look at empty halls. */
    private void buildUp() {
        int many = random.nextInt(9);
        for (int i = 0; i < many; i++) {
            both("claims", random.nextInt(3) == 0 ? random.nextInt(6) : 0, random.nextInt(10), random.nextInt(4));
        }
        int density = 1 + random.nextInt(4);
        for (int i = 0; i < many * density && many > 1; i++) {
            int from = random.nextInt(many);
            int to = random.nextInt(many);
            if (random.nextInt(4) == 0) {
                both("supports", from, to);
            } else {
                both("attacks", from, to);
            }
        }
    }

    private boolean isDearAndRare(String name) {
        return (name.equals("spare") || name.equals("lots") || name.equals("missing")) && random.nextInt(3) != 0;
    }

    private Object[] arguments(Method method) {
        Object[] arguments = new Object[method.getParameterCount()];
        for (int i = 0; i < arguments.length; i++) {
            arguments[i] = argument(method.getName(), i);
        }
        return arguments;
    }

    private int argument(String name, int i) {
        if (random.nextInt(wildness) == 0) {
            return WILD[random.nextInt(WILD.length)];
        }
        String place = name + i;
        switch (place) {
            case "letter0": return SIGNS.charAt(random.nextInt(SIGNS.length()));
            case "claims0": case "kind1": case "sets0": case "among0": return random.nextInt(6);
            case "claims1": case "claims2": case "kind2": case "claim1": return random.nextInt(10);
            case "row0": return random.nextInt(4);
            case "mode0": case "speakers1": return random.nextInt(4);
            case "turn0": case "sets1": case "speakers0": return random.nextInt(10) - 1;
            case "missing1": return 2 + random.nextInt(19);
            case "lots0": return 1 + random.nextInt(3);
            case "lots1": return random.nextInt();
            case "count0": return random.nextInt(19) - 1;
            case "among2": case "game1": case "changes1": case "spare0": case "missing2": case "whatIs1": case "lots2":
                return random.nextInt(2);
            default: return random.nextInt(8);
        }
    }

    private void tellSome() {
        StringBuilder text = new StringBuilder();
        int many = 1 + random.nextInt(8);
        for (int i = 0; i < many; i++) {
            text.append(statement()).append(';');
        }
        if (random.nextInt(3) == 0) {
            text.setCharAt(random.nextInt(text.length()), SIGNS.charAt(random.nextInt(SIGNS.length())));
        }
        if (random.nextInt(5) == 0) {
            text.setLength(random.nextInt(text.length()));
        }
        for (int i = 0; i < text.length(); i++) {
            both("letter", text.charAt(i));
        }
        both("hall");
    }

    private String statement() {
        int claim = 'a' + random.nextInt(random.nextInt(12) == 0 ? 26 : 8);
        switch (random.nextInt(6)) {
            case 0: return "*" + random.nextInt(6) + random.nextInt(10) + random.nextInt(10);
            case 1: return (char) claim + ":" + random.nextInt(6) + random.nextInt(10);
            case 2: return (char) claim + "!";
            case 3: return "m" + random.nextInt(4);
            default:
                StringBuilder chain = new StringBuilder().append((char) claim);
                int steps = 1 + random.nextInt(3);
                for (int i = 0; i < steps; i++) {
                    chain.append(random.nextBoolean() ? '>' : '+').append((char) ('a' + random.nextInt(8)));
                }
                return chain.toString();
        }
    }

    private void both(String name, int... numbers) {
        Object[] arguments = new Object[numbers.length];
        Class<?>[] types = new Class<?>[numbers.length];
        for (int i = 0; i < numbers.length; i++) {
            arguments[i] = numbers[i];
            types[i] = int.class;
        }
        try {
            call(-1, HallOfClaims.class.getMethod(name, types), arguments);
        } catch (ReflectiveOperationException e) {
            throw new IllegalStateException(e);
        }
    }

    private void call(int run, Method method, Object[] arguments) throws ReflectiveOperationException {
        if (calls.size() >= CALLS) {
            return;
        }
        String text = method.getName() + Arrays.toString(arguments);
        calls.add(text);
        try {
            long got = ((Number) method.invoke(subject, arguments)).longValue();
            Method like = Model.class.getMethod(method.getName(), method.getParameterTypes());
            long want = ((Number) like.invoke(model, arguments)).longValue();
            Checks.due("run " + run + " call " + calls.size() + " " + text, got, want);
        } catch (InvocationTargetException e) {
            Checks.holds(text + " threw " + e.getCause() + " behind " + calls, false);
        }
    }
}
