import java.math.BigInteger;
import java.util.ArrayList;
import java.util.Comparator;
import java.util.List;
import java.util.Map;
import java.util.TreeMap;

/** The document once more, written apart from EstateDesk, slowly and with numbers that have no end, for ModelTest. */
public final class Model {
    private static final class Asset {
        long value;
        boolean fund;
        boolean gone;
    }

    private static final class Clause {
        char kind;
        long cents;
        int asset;
        int age;
        int parts;
        boolean stays = true;
    }

    private static final class Debt {
        long cents;
        int asset;
    }

    private static final class Result {
        final Map<Integer, Integer> state = new TreeMap<>();
        final Map<Integer, Integer> taker = new TreeMap<>();
        final Map<Integer, BigInteger> general = new TreeMap<>();
        final Map<Integer, BigInteger> drawn = new TreeMap<>();
        final Map<Integer, BigInteger> given = new TreeMap<>();
        final Map<Integer, BigInteger> bears = new TreeMap<>();
        final Map<Integer, BigInteger> cents = new TreeMap<>();
        final Map<Integer, Integer> assetTo = new TreeMap<>();
        final Map<Integer, BigInteger> ownOfAsset = new TreeMap<>();
        final Map<Integer, BigInteger> ownOfDebt = new TreeMap<>();
        final Map<Integer, BigInteger> paid = new TreeMap<>();
        final List<Map<Integer, BigInteger>> gets = List.of(new TreeMap<>(), new TreeMap<>(), new TreeMap<>());
        final BigInteger[] sums = new BigInteger[8];
        BigInteger shortage;

        BigInteger value(int clause) {
            return of(general, clause).add(of(drawn, clause)).add(of(given, clause));
        }
    }

    private int testatorDay = 0;
    private final Map<Integer, Integer> died = new TreeMap<>();
    private final Map<Integer, Asset> assets = new TreeMap<>();
    private final Map<Integer, Clause> clauses = new TreeMap<>();
    private final Map<Integer, Map<Integer, Integer>> ranks = new TreeMap<>();
    private final Map<Integer, Debt> debts = new TreeMap<>();
    private Result last = null;
    private boolean factSince = true;
    private boolean closed = false;

    public void testator(int day) {
        argument(day >= 1 && day <= 100000);
        fact();
        testatorDay = day;
    }

    public void person(int id, int day) {
        argument(number(id) && day >= 0 && day <= 100000);
        fact();
        if (day == 0) {
            died.remove(id);
        } else {
            died.put(id, day);
        }
    }

    public void asset(int id, long cents, boolean fund) {
        argument(number(id) && money(cents));
        state(!assets.containsKey(id));
        fact();
        Asset asset = new Asset();
        asset.value = cents;
        asset.fund = fund;
        assets.put(id, asset);
    }

    public long revalue(int id, long cents) {
        argument(assets.containsKey(id) && money(cents));
        fact();
        long before = assets.get(id).value;
        assets.get(id).value = cents;
        return before;
    }

    public void gone(int id) {
        argument(assets.containsKey(id));
        fact();
        assets.get(id).gone = true;
    }

    public void gift(int id, int asset) {
        argument(number(id) && assets.containsKey(asset));
        for (Map.Entry<Integer, Clause> other : clauses.entrySet()) {
            char kind = other.getValue().kind;
            state(other.getKey() == id || kind != 'G' && kind != 'L' || other.getValue().asset != asset);
        }
        fact();
        put(id, 'G').asset = asset;
    }

    public void legacy(int id, long cents, int asset) {
        argument(number(id) && money(cents));
        argument(asset == 0 || assets.containsKey(asset) && assets.get(asset).fund);
        for (Map.Entry<Integer, Clause> other : clauses.entrySet()) {
            state(other.getKey() == id || other.getValue().kind != 'G' || other.getValue().asset != asset);
        }
        fact();
        Clause clause = put(id, 'L');
        clause.cents = cents;
        clause.asset = asset;
    }

    public void annuity(int id, long yearly, int age) {
        argument(number(id) && yearly >= 0 && yearly <= 1000000000L && age >= 0 && age <= 99);
        fact();
        Clause clause = put(id, 'A');
        clause.cents = yearly;
        clause.age = age;
    }

    public void residue(int id, int parts) {
        argument(number(id) && parts >= 1 && parts <= 1000);
        fact();
        put(id, 'R').parts = parts;
    }

    public void strike(int id) {
        argument(number(id));
        fact();
        clauses.remove(id);
    }

    public void taker(int id, int rank, int person) {
        argument(number(id) && rank >= 1 && rank <= 4 && (person == 0 || number(person)));
        fact();
        ranks.computeIfAbsent(id, any -> new TreeMap<>()).put(rank, person);
    }

    public void charge(int id, boolean stays) {
        argument(clauses.containsKey(id) && clauses.get(id).kind == 'G');
        fact();
        clauses.get(id).stays = stays;
    }

    public void debt(int id, long cents, int asset) {
        argument(number(id) && money(cents) && (asset == 0 || assets.containsKey(asset)));
        fact();
        Debt debt = new Debt();
        debt.cents = cents;
        debt.asset = asset;
        debts.put(id, debt);
    }

    public long settle() {
        state(testatorDay != 0);
        last = settling();
        factSince = false;
        return last.shortage.longValueExact();
    }

    public long gets(int person, int what) {
        argument((person == 0 || number(person)) && what >= 0 && what <= 2);
        state(last != null);
        return of(last.gets.get(what), person).longValueExact();
    }

    public int assetTo(int asset) {
        argument(number(asset));
        state(last != null);
        return last.assetTo.getOrDefault(asset, -1);
    }

    public int clauseState(int clause) {
        argument(number(clause));
        state(last != null);
        return last.state.getOrDefault(clause, -1);
    }

    public long told(int clause, int what) {
        argument(number(clause) && what >= 0 && what <= 4);
        state(last != null);
        int state = clauseState(clause);
        if (state != 0 && state != 3) {
            return 0;
        }
        switch (what) {
            case 0: return last.value(clause).longValueExact();
            case 1: return of(last.bears, clause).longValueExact();
            case 2: return of(last.drawn, clause).longValueExact();
            case 3: return of(last.cents, clause).longValueExact();
            default: return last.taker.get(clause);
        }
    }

    public long paid(int debt) {
        argument(number(debt));
        state(last != null);
        return of(last.paid, debt).longValueExact();
    }

    public long sum(int what) {
        argument(what >= 0 && what <= 7);
        state(last != null);
        return last.sums[what].longValueExact();
    }

    public void close() {
        state(!closed && !factSince);
        closed = true;
    }

    public long worth(long yearly, int age) {
        argument(yearly >= 0 && yearly <= 1000000000L && age >= 0 && age <= 99);
        return annuityWorth(yearly, age).longValueExact();
    }

    private Result settling() {
        Result r = new Result();
        judge(r);
        findOwnDebts(r);
        findValues(r);
        addUp(r);
        BigInteger means = r.sums[2].add(r.sums[5]).add(r.sums[6]);
        r.shortage = positive(r.sums[3].subtract(means));
        if (r.shortage.signum() > 0) {
            settleShort(r, means);
        } else {
            settleWhole(r);
        }
        r.sums[1] = sumOf(r.paid);
        return r;
    }

    private void judge(Result r) {
        for (Map.Entry<Integer, Clause> each : clauses.entrySet()) {
            int taker = 0;
            for (int rank = 4; rank >= 1; rank--) {
                int person = ranks.getOrDefault(each.getKey(), Map.of()).getOrDefault(rank, 0);
                if (person != 0 && died.getOrDefault(person, Integer.MAX_VALUE) > testatorDay) {
                    taker = person;
                }
            }
            boolean fails = each.getValue().kind == 'G' && assets.get(each.getValue().asset).gone;
            r.state.put(each.getKey(), taker == 0 ? 1 : fails ? 2 : 0);
            r.taker.put(each.getKey(), taker);
        }
    }

    private Map<Integer, Clause> good(Result r, char kind) {
        Map<Integer, Clause> found = new TreeMap<>();
        for (Map.Entry<Integer, Clause> each : clauses.entrySet()) {
            if (each.getValue().kind == kind && r.state.get(each.getKey()) == 0) {
                found.put(each.getKey(), each.getValue());
            }
        }
        return found;
    }

    private void findOwnDebts(Result r) {
        for (Clause gift : good(r, 'G').values()) {
            if (!gift.stays) {
                continue;
            }
            BigInteger value = big(assets.get(gift.asset).value);
            BigInteger sum = BigInteger.ZERO;
            for (Map.Entry<Integer, Debt> each : debts.entrySet()) {
                if (each.getValue().asset != gift.asset) {
                    continue;
                }
                BigInteger cents = big(each.getValue().cents);
                if (sum.add(cents).compareTo(value) <= 0) {
                    r.ownOfDebt.put(each.getKey(), cents);
                    sum = sum.add(cents);
                } else {
                    r.ownOfDebt.put(each.getKey(), value.subtract(sum));
                    sum = value;
                    break;
                }
            }
            r.ownOfAsset.put(gift.asset, sum);
        }
    }

    private void findValues(Result r) {
        for (Map.Entry<Integer, Clause> each : good(r, 'G').entrySet()) {
            int asset = each.getValue().asset;
            r.given.put(each.getKey(), big(assets.get(asset).value).subtract(of(r.ownOfAsset, asset)));
        }
        Map<Integer, BigInteger> drawnOut = new TreeMap<>();
        for (Map.Entry<Integer, Clause> each : good(r, 'L').entrySet()) {
            int asset = each.getValue().asset;
            BigInteger cents = big(each.getValue().cents);
            BigInteger drawn = BigInteger.ZERO;
            if (asset != 0 && !assets.get(asset).gone) {
                drawn = cents.min(big(assets.get(asset).value).subtract(of(drawnOut, asset)));
                drawnOut.merge(asset, drawn, BigInteger::add);
            }
            r.drawn.put(each.getKey(), drawn);
            r.general.put(each.getKey(), cents.subtract(drawn));
        }
        for (Map.Entry<Integer, Clause> each : good(r, 'A').entrySet()) {
            r.general.put(each.getKey(), annuityWorth(each.getValue().cents, each.getValue().age));
        }
    }

    private void addUp(Result r) {
        BigInteger there = BigInteger.ZERO;
        BigInteger t = BigInteger.ZERO;
        for (Map.Entry<Integer, Asset> each : assets.entrySet()) {
            if (each.getValue().gone) {
                continue;
            }
            there = there.add(big(each.getValue().value));
            boolean given = false;
            for (Clause gift : good(r, 'G').values()) {
                given |= gift.asset == each.getKey();
            }
            t = given ? t : t.add(big(each.getValue().value));
        }
        r.sums[0] = there;
        r.sums[2] = t.subtract(sumOf(r.drawn));
        r.sums[3] = sumOf(ordinary(r));
        r.sums[4] = sumOf(r.general);
        r.sums[5] = sumOf(r.drawn);
        r.sums[6] = sumOf(r.given);
        r.sums[7] = positive(r.sums[2].subtract(r.sums[3]).subtract(r.sums[4]));
    }

    private Map<Integer, BigInteger> ordinary(Result r) {
        Map<Integer, BigInteger> found = new TreeMap<>();
        for (Map.Entry<Integer, Debt> each : debts.entrySet()) {
            found.put(each.getKey(), big(each.getValue().cents).subtract(of(r.ownOfDebt, each.getKey())));
        }
        return found;
    }

    private void settleShort(Result r, BigInteger means) {
        Map<Integer, BigInteger> shares = split(means, ordinary(r));
        for (int debt : debts.keySet()) {
            r.paid.put(debt, of(r.ownOfDebt, debt).add(of(shares, debt)));
        }
        for (int clause : clauses.keySet()) {
            if (r.state.get(clause) == 0) {
                r.state.put(clause, 3);
                r.bears.put(clause, r.value(clause));
            }
        }
        r.sums[7] = BigInteger.ZERO;
    }

    private void settleWhole(Result r) {
        for (Map.Entry<Integer, Debt> each : debts.entrySet()) {
            r.paid.put(each.getKey(), big(each.getValue().cents));
        }
        BigInteger over = positive(r.sums[2].subtract(r.sums[3]));
        BigInteger under = positive(r.sums[3].subtract(r.sums[2]));
        BigInteger fromDrawn = r.sums[5].min(under);
        Map<Integer, BigInteger> shares = new TreeMap<>();
        Map<Integer, BigInteger> parts = new TreeMap<>();
        good(r, 'R').forEach((clause, residue) -> parts.put(clause, big(residue.parts)));
        if (parts.isEmpty()) {
            r.gets.get(1).put(0, r.sums[7]);
        } else {
            shares = split(r.sums[7], parts);
        }
        addTo(r.bears, split(r.sums[4].subtract(r.sums[4].min(over)), r.general));
        addTo(r.bears, split(fromDrawn, r.drawn));
        addTo(r.bears, split(under.subtract(fromDrawn), r.given));
        for (Map.Entry<Integer, Clause> each : clauses.entrySet()) {
            if (r.state.get(each.getKey()) == 0) {
                handOver(r, each.getKey(), each.getValue(), of(shares, each.getKey()));
            }
        }
    }

    private void handOver(Result r, int id, Clause clause, BigInteger share) {
        int taker = r.taker.get(id);
        if (of(r.bears, id).signum() > 0) {
            r.state.put(id, 3);
        }
        if (clause.kind == 'G') {
            r.assetTo.put(clause.asset, taker);
            r.gets.get(0).merge(taker, big(assets.get(clause.asset).value), BigInteger::add);
            r.gets.get(2).merge(taker, of(r.ownOfAsset, clause.asset).add(of(r.bears, id)), BigInteger::add);
        } else {
            BigInteger cents = clause.kind == 'R' ? share : r.value(id).subtract(of(r.bears, id));
            r.cents.put(id, cents);
            r.gets.get(1).merge(taker, cents, BigInteger::add);
        }
    }

    private static Map<Integer, BigInteger> split(BigInteger amount, Map<Integer, BigInteger> weights) {
        Map<Integer, BigInteger> shares = new TreeMap<>();
        Map<Integer, BigInteger> rests = new TreeMap<>();
        BigInteger whole = sumOf(weights);
        if (whole.signum() == 0) {
            return shares;
        }
        BigInteger lacking = amount;
        for (Map.Entry<Integer, BigInteger> each : weights.entrySet()) {
            BigInteger[] parts = amount.multiply(each.getValue()).divideAndRemainder(whole);
            shares.put(each.getKey(), parts[0]);
            rests.put(each.getKey(), parts[1]);
            lacking = lacking.subtract(parts[0]);
        }
        List<Integer> byRest = new ArrayList<>(weights.keySet());
        byRest.sort(Comparator.comparing((Integer id) -> rests.get(id)).reversed().thenComparing(id -> id));
        for (int id : byRest.subList(0, lacking.intValueExact())) {
            shares.merge(id, BigInteger.ONE, BigInteger::add);
        }
        return shares;
    }

    private static BigInteger annuityWorth(long yearly, int age) {
        List<BigInteger> f = new ArrayList<>(List.of(big(1000000)));
        BigInteger sum = BigInteger.ZERO;
        for (int k = 1; k <= 100 - age; k++) {
            f.add(f.get(k - 1).multiply(big(96)).divide(big(100)));
            sum = sum.add(f.get(k));
        }
        return sum.multiply(big(yearly)).divide(big(1000000));
    }

    private Clause put(int id, char kind) {
        Clause clause = new Clause();
        clause.kind = kind;
        clauses.put(id, clause);
        return clause;
    }

    private static void addTo(Map<Integer, BigInteger> row, Map<Integer, BigInteger> more) {
        more.forEach((id, cents) -> row.merge(id, cents, BigInteger::add));
    }

    private static BigInteger of(Map<Integer, BigInteger> row, int id) {
        return row.getOrDefault(id, BigInteger.ZERO);
    }

    private static BigInteger sumOf(Map<Integer, BigInteger> row) {
        return row.values().stream().reduce(BigInteger.ZERO, BigInteger::add);
    }

    private static BigInteger positive(BigInteger number) {
        return number.max(BigInteger.ZERO);
    }

    private static BigInteger big(long number) {
        return BigInteger.valueOf(number);
    }

    private static boolean number(int id) {
        return id >= 1 && id <= 40;
    }

    private static boolean money(long cents) {
        return cents >= 0 && cents <= 1000000000000L;
    }

    private void fact() {
        state(!closed);
        factSince = true;
    }

    private static void argument(boolean holds) {
        if (!holds) {
            throw new IllegalArgumentException();
        }
    }

    private static void state(boolean holds) {
        if (!holds) {
            throw new IllegalStateException();
        }
    }
}
