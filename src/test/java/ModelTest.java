import java.lang.reflect.InvocationTargetException;
import java.lang.reflect.Method;
import java.lang.reflect.Modifier;
import java.util.Arrays;
import java.util.Map;
import java.util.Random;
import java.util.TreeMap;

/** Many runs of calls, told to EstateDesk and to Model alike: every answer and every exception must be the same. */
public final class ModelTest {
    private static final int RUNS = 3000;
    private static final int CALLS = 512;
    private static final String[] FACTS = {
        "testator", "person", "person", "asset", "asset", "asset", "revalue", "gone", "gift", "gift", "gift", "legacy", "legacy",
        "legacy", "annuity", "residue", "residue", "strike", "taker", "taker", "taker", "taker", "taker", "taker", "charge", "charge",
        "debt", "debt", "debt", "debt",
    };
    private static final String[] ANSWERS = {
        "gets", "gets", "gets", "assetTo", "clauseState", "clauseState", "told", "told", "told", "told", "paid", "paid", "sum", "sum",
        "worth",
    };
    private static final String[] CLAUSES = {"gift", "gift", "gift", "legacy", "legacy", "legacy", "annuity", "residue"};
    private static final String[] SETTLE = {"settle"};
    private static final String[] CLOSE = {"close"};

    private static final Map<String, Method> OF_DESK = methods(EstateDesk.class);
    private static final Map<String, Method> OF_MODEL = methods(Model.class);

    private final EstateDesk desk = new EstateDesk();
    private final Model model = new Model();
    private int calls = 0;

    private final int run;
    private final Random random;
    private final int numbers;
    private final long money;
    private final int days;
    private final int wrongInHundred;

    private ModelTest(int run) {
        this.run = run;
        random = new Random(run);
        numbers = pick(2, 4, 8, 40);
        money = new long[] {5, 300, 1000000, 1000000000000L}[random.nextInt(4)];
        days = pick(2, 20, 100000);
        wrongInHundred = pick(0, 1, 5);
    }

    public static void main(String[] args) throws ReflectiveOperationException {
        for (int run = 1; run <= RUNS; run++) {
            new ModelTest(run).run();
        }
        Check.end();
    }

    private void run() throws ReflectiveOperationException {
        if (run % 3 == 0) {
            tellOfEveryNumber();
        }
        int facts = 10 + random.nextInt(150);
        int factsLater = pick(3, 20, 60);
        int answers = pick(10, 40);
        while (calls < CALLS) {
            make(FACTS, facts);
            make(random.nextInt(20) == 0 ? CLOSE : SETTLE, 1);
            make(ANSWERS, answers);
            make(CLOSE, random.nextInt(40) == 0 ? 1 : 0);
            facts = random.nextInt(factsLater);
        }
    }

    /** Facts drawn one by one seldom fill a desk: here all 40 assets, debts and clauses are told, and a taker of each clause. */
    private void tellOfEveryNumber() throws ReflectiveOperationException {
        call("testator", arguments("testator"));
        for (int number = 1; number <= 40; number++) {
            callOf(number, "asset");
            callOf(number, "debt");
            callOf(number, CLAUSES[random.nextInt(CLAUSES.length)]);
            callOf(number, "taker");
        }
    }

    private void callOf(int number, String name) throws ReflectiveOperationException {
        Object[] arguments = arguments(name);
        arguments[0] = number;
        call(name, arguments);
    }

    private void make(String[] names, int times) throws ReflectiveOperationException {
        for (int time = 0; time < times && calls < CALLS; time++) {
            String name = names[random.nextInt(names.length)];
            call(name, arguments(name));
        }
    }

    private void call(String name, Object[] arguments) throws ReflectiveOperationException {
        calls++;
        String got = answer(OF_DESK.get(name), desk, arguments);
        String want = answer(OF_MODEL.get(name), model, arguments);
        Check.due("run " + run + ", call " + calls + ": " + name + Arrays.toString(arguments), got, want);
    }

    private Object[] arguments(String name) {
        switch (name) {
            case "testator": return new Object[] {from(1, days, 100000)};
            case "person": return new Object[] {id(), from(0, days, 100000)};
            case "asset": return new Object[] {id(), cents(money, 1000000000000L), random.nextInt(2) == 0};
            case "revalue": return new Object[] {id(), cents(money, 1000000000000L)};
            case "gift": return new Object[] {id(), id()};
            case "legacy": return new Object[] {id(), cents(money, 1000000000000L), idOr0()};
            case "annuity": return new Object[] {id(), cents(Math.min(money, 1000000000L), 1000000000L), from(0, 99, 99)};
            case "residue": return new Object[] {id(), from(1, pick(3, 1000), 1000)};
            case "taker": return new Object[] {id(), from(1, 4, 4), idOr0()};
            case "charge": return new Object[] {id(), random.nextInt(2) == 0};
            case "debt": return new Object[] {id(), cents(money, 1000000000000L), idOr0()};
            case "gets": return new Object[] {idOr0(), from(0, 2, 2)};
            case "told": return new Object[] {id(), from(0, 4, 4)};
            case "sum": return new Object[] {from(0, 7, 7)};
            case "worth": return new Object[] {cents(1000000000L, 1000000000L), from(0, 99, 99)};
            case "settle":
            case "close": return new Object[0];
            default: return new Object[] {id()};
        }
    }

    private int id() {
        return from(1, numbers, 40);
    }

    private int idOr0() {
        return from(0, numbers, 40);
    }

    private int from(int least, int usual, int greatest) {
        if (random.nextInt(100) < wrongInHundred) {
            return pick(least - 1, greatest + 1, Integer.MIN_VALUE, Integer.MAX_VALUE);
        }
        return random.nextInt(50) == 0 ? greatest : least + random.nextInt(usual - least + 1);
    }

    private long cents(long usual, long greatest) {
        if (random.nextInt(100) < wrongInHundred) {
            return new long[] {-1, greatest + 1, Long.MIN_VALUE, Long.MAX_VALUE}[random.nextInt(4)];
        }
        return random.nextInt(20) == 0 ? usual : (random.nextLong() >>> 1) % (usual + 1);
    }

    private int pick(int... among) {
        return among[random.nextInt(among.length)];
    }

    private static String answer(Method method, Object office, Object[] arguments) throws IllegalAccessException {
        try {
            return String.valueOf(method.invoke(office, arguments));
        } catch (InvocationTargetException e) {
            return "throws." + e.getCause().getClass().getSimpleName();
        }
    }

    private static Map<String, Method> methods(Class<?> of) {
        Map<String, Method> found = new TreeMap<>();
        for (Method method : of.getDeclaredMethods()) {
            if (Modifier.isPublic(method.getModifiers())) {
                found.put(method.getName(), method);
            }
        }
        return found;
    }
}
