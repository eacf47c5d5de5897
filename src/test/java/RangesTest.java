import java.lang.reflect.InvocationTargetException;
import java.lang.reflect.Method;
import java.util.Arrays;
import java.util.Map;
import java.util.TreeMap;
import java.util.function.Supplier;

/**
 * The ranges of "Terms", of every parameter of every call: the least and the greatest number are taken, the first one beyond on
 * either side and those far off are refused, whatever the other parameters are and whatever the desk stands at.
 */
public final class RangesTest {
    private static final String ARGUMENT = "IllegalArgumentException";
    private static final String STATE = "IllegalStateException";
    private static final String PASSES = "passes";

    private static final long[] NUMBER = {1, 40};
    private static final long[] NUMBER_OR_NONE = {0, 40};
    private static final long[] DAY = {1, 100000};
    private static final long[] DAY_OR_LIVING = {0, 100000};
    private static final long[] CENTS = {0, 1000000000000L};
    private static final long[] YEARLY = {0, 1000000000L};
    private static final long[] AGE = {0, 99};
    private static final long[] PARTS = {1, 1000};
    private static final long[] RANK = {1, 4};
    private static final long[] EITHER = {0, 1};

    private static final Map<String, long[][]> FACTS = new TreeMap<>(Map.of(
            "testator", new long[][] {DAY},
            "person", new long[][] {NUMBER, DAY_OR_LIVING},
            "revalue", new long[][] {NUMBER, CENTS},
            "gone", new long[][] {NUMBER},
            "annuity", new long[][] {NUMBER, YEARLY, AGE},
            "residue", new long[][] {NUMBER, PARTS},
            "strike", new long[][] {NUMBER},
            "taker", new long[][] {NUMBER, RANK, NUMBER_OR_NONE},
            "legacy", new long[][] {NUMBER, CENTS, NUMBER_OR_NONE},
            "debt", new long[][] {NUMBER, CENTS, NUMBER_OR_NONE}));
    private static final long[][] OF_ASSET = {NUMBER, CENTS, EITHER};
    private static final long[][] OF_GIFT = {NUMBER, NUMBER};
    private static final long[][] OF_CHARGE = {NUMBER, EITHER};
    private static final Map<String, long[][]> ANSWERS = new TreeMap<>(Map.of(
            "gets", new long[][] {NUMBER_OR_NONE, {0, 2}},
            "assetTo", new long[][] {NUMBER},
            "clauseState", new long[][] {NUMBER},
            "told", new long[][] {NUMBER, {0, 4}},
            "paid", new long[][] {NUMBER},
            "sum", new long[][] {{0, 7}}));
    private static final long[][] OF_WORTH = {YEARLY, AGE};

    private static final Map<String, Method> METHODS = methods();

    public static void main(String[] args) {
        FACTS.forEach((name, ranges) -> {
            all(name, ranges, RangesTest::fundsAndNoClause, PASSES);
            all(name, ranges, RangesTest::fundsAndNoClauseClosed, STATE);
        });
        all("asset", OF_ASSET, EstateDesk::new, PASSES);
        all("asset", OF_ASSET, RangesTest::fundsAndNoClause, STATE);
        all("gift", OF_GIFT, RangesTest::fundsAndNoClause, PASSES);
        all("gift", OF_GIFT, RangesTest::fundsAndNoClauseClosed, STATE);
        all("gift", OF_GIFT, RangesTest::noAsset, ARGUMENT);
        all("charge", OF_CHARGE, RangesTest::allAreGifts, PASSES);
        all("charge", OF_CHARGE, RangesTest::fundsAndNoClause, ARGUMENT);
        ANSWERS.forEach((name, ranges) -> {
            all(name, ranges, RangesTest::fundsAndNoClauseClosed, PASSES);
            all(name, ranges, EstateDesk::new, STATE);
        });
        all("worth", OF_WORTH, EstateDesk::new, PASSES);
        all("worth", OF_WORTH, RangesTest::fundsAndNoClauseClosed, PASSES);
        everyNumberBetweenIsTaken();
        wrapAroundIsNotWithin();
        Check.end();
    }

    private static EstateDesk noAsset() {
        EstateDesk x = new EstateDesk();
        x.testator(1);
        return x;
    }

    private static EstateDesk fundsAndNoClause() {
        EstateDesk x = noAsset();
        for (int asset = 1; asset <= Desks.MOST; asset++) {
            x.asset(asset, asset, true);
        }
        return x;
    }

    private static EstateDesk fundsAndNoClauseClosed() {
        EstateDesk x = fundsAndNoClause();
        x.settle();
        x.close();
        return x;
    }

    private static EstateDesk allAreGifts() {
        EstateDesk x = fundsAndNoClause();
        for (int clause = 1; clause <= Desks.MOST; clause++) {
            x.gift(clause, clause);
        }
        return x;
    }

    /** Each parameter at each of its edges, with each other one at each of its own. */
    private static void all(String name, long[][] ranges, Supplier<EstateDesk> maker, String dueWithin) {
        long[] numbers = new long[ranges.length];
        tryFrom(0, name, ranges, numbers, maker, dueWithin);
    }

    private static void tryFrom(int parameter, String name, long[][] ranges, long[] numbers, Supplier<EstateDesk> maker, String dueWithin) {
        if (parameter == ranges.length) {
            String due = isWithin(numbers, ranges) ? dueWithin : ARGUMENT;
            Check.due(name + Arrays.toString(numbers) + " where within " + dueWithin, outcome(name, numbers, maker.get()), due);
            return;
        }
        for (long number : edges(METHODS.get(name).getParameterTypes()[parameter], ranges[parameter])) {
            numbers[parameter] = number;
            tryFrom(parameter + 1, name, ranges, numbers, maker, dueWithin);
        }
    }

    private static long[] edges(Class<?> type, long[] range) {
        if (type == boolean.class) {
            return range;
        }
        boolean isLong = type == long.class;
        return new long[] {
            isLong ? Long.MIN_VALUE : Integer.MIN_VALUE, range[0] - 1, range[0], range[1], range[1] + 1,
            isLong ? Long.MAX_VALUE : Integer.MAX_VALUE,
        };
    }

    private static boolean isWithin(long[] numbers, long[][] ranges) {
        for (int parameter = 0; parameter < ranges.length; parameter++) {
            if (numbers[parameter] < ranges[parameter][0] || numbers[parameter] > ranges[parameter][1]) {
                return false;
            }
        }
        return true;
    }

    private static String outcome(String name, long[] numbers, EstateDesk desk) {
        Method method = METHODS.get(name);
        Object[] arguments = new Object[numbers.length];
        for (int parameter = 0; parameter < numbers.length; parameter++) {
            Class<?> type = method.getParameterTypes()[parameter];
            arguments[parameter] = type == boolean.class ? numbers[parameter] == 1 : (Object) numbers[parameter];
            if (type == int.class) {
                arguments[parameter] = (int) numbers[parameter];
            }
        }
        try {
            method.invoke(desk, arguments);
            return PASSES;
        } catch (InvocationTargetException e) {
            return e.getCause().getClass().getSimpleName();
        } catch (IllegalAccessException e) {
            return "cannot be called";
        }
    }

    private static void everyNumberBetweenIsTaken() {
        for (int number = -2; number <= Desks.MOST + 2; number++) {
            String due = number >= 1 && number <= Desks.MOST ? PASSES : ARGUMENT;
            String dueOr0 = number == 0 ? PASSES : due;
            Check.due("person " + number, outcome("person", new long[] {number, 1}, new EstateDesk()), due);
            Check.due("asset " + number, outcome("asset", new long[] {number, 1, 0}, new EstateDesk()), due);
            Check.due("debt " + number, outcome("debt", new long[] {number, 1, 0}, new EstateDesk()), due);
            Check.due("residue " + number, outcome("residue", new long[] {number, 1}, new EstateDesk()), due);
            Check.due("taker, person " + number, outcome("taker", new long[] {1, 1, number}, new EstateDesk()), dueOr0);
            Check.due("gets, person " + number, outcome("gets", new long[] {number, 0}, Desks.settled()), dueOr0);
            Check.due("assetTo " + number, outcome("assetTo", new long[] {number}, Desks.settled()), due);
            Check.due("clauseState " + number, outcome("clauseState", new long[] {number}, Desks.settled()), due);
            Check.due("paid " + number, outcome("paid", new long[] {number}, Desks.settled()), due);
        }
        for (int number = -2; number <= 9; number++) {
            Check.due("rank " + number, outcome("taker", new long[] {1, number, 1}, new EstateDesk()), within(number, 1, 4));
            Check.due("gets, what " + number, outcome("gets", new long[] {1, number}, Desks.settled()), within(number, 0, 2));
            Check.due("told, what " + number, outcome("told", new long[] {1, number}, Desks.settled()), within(number, 0, 4));
            Check.due("sum, what " + number, outcome("sum", new long[] {number}, Desks.settled()), within(number, 0, 7));
        }
        for (int age = -2; age <= 102; age++) {
            Check.due("age " + age, outcome("worth", new long[] {1, age}, new EstateDesk()), within(age, 0, 99));
        }
        for (int parts = -2; parts <= 1002; parts++) {
            Check.due("parts " + parts, outcome("residue", new long[] {1, parts}, new EstateDesk()), within(parts, 1, 1000));
        }
    }

    private static String within(long number, long least, long greatest) {
        return number >= least && number <= greatest ? PASSES : ARGUMENT;
    }

    /** Numbers that a cast to int, or a sum or product that runs over, would bring back into the range. */
    private static void wrapAroundIsNotWithin() {
        long[] lowBitsWithin = {1L << 40, (1L << 40) + 5, 1L << 42, (1L << 62) + 7, Long.MIN_VALUE + 7, -(1L << 32), -(1L << 40) + 5};
        for (long cents : lowBitsWithin) {
            EstateDesk x = fundsAndNoClause();
            String due = within(cents, 0, Desks.MOST_CENTS);
            Check.due("wrap-around: asset " + cents, outcome("asset", new long[] {1, cents, 0}, new EstateDesk()), due);
            Check.due("wrap-around: revalue " + cents, outcome("revalue", new long[] {1, cents}, x), due);
            Check.due("wrap-around: legacy " + cents, outcome("legacy", new long[] {1, cents, 0}, x), due);
            Check.due("wrap-around: debt " + cents, outcome("debt", new long[] {1, cents, 0}, x), due);
            Check.due("wrap-around: annuity " + cents, outcome("annuity", new long[] {1, cents, 0}, x), ARGUMENT);
            Check.due("wrap-around: worth " + cents, outcome("worth", new long[] {cents, 0}, x), ARGUMENT);
        }
        Check.due("wrap-around: worth 2^32", outcome("worth", new long[] {1L << 32, 0}, new EstateDesk()), ARGUMENT);
        Check.due("wrap-around: annuity 2^32 + 1", outcome("annuity", new long[] {1, (1L << 32) + 1, 0}, new EstateDesk()), ARGUMENT);
    }

    private static Map<String, Method> methods() {
        Map<String, Method> found = new TreeMap<>();
        for (Method method : EstateDesk.class.getMethods()) {
            if (method.getDeclaringClass() == EstateDesk.class) {
                found.put(method.getName(), method);
            }
        }
        return found;
    }
}
