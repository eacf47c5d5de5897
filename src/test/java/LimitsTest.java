import java.lang.reflect.Array;
import java.lang.reflect.Field;
import java.lang.reflect.Modifier;
import java.math.BigInteger;
import java.util.Collections;
import java.util.IdentityHashMap;
import java.util.Set;

/** Nothing told and everything told; sums and products at their greatest; the last of 512 calls; the room that a desk takes. */
public final class LimitsTest {
    private static final int MOST = Desks.MOST;
    private static final long CENTS = Desks.MOST_CENTS;

    public static void main(String[] args) {
        nothingTold();
        everythingTold();
        everyPersonTakes();
        everyAssetIsGivenToOne();
        everyAssetIsGone();
        ownDebtsAtTheirGreatest();
        allDebtsOnOneAsset();
        giftsBearTheGreatest();
        generalPartsAtTheirGreatest();
        drawnPartsAtTheirGreatest();
        allLegaciesOutOfOneFund();
        annuitiesAtTheirGreatest();
        residueAtItsGreatest();
        shortageAtItsGreatest();
        splitAtItsGreatest();
        splitOfResidueAtItsGreatest();
        lastOf512Calls();
        roomOfADesk();
        Check.end();
    }

    private static EstateDesk allNumbers(long assets, boolean funds, long debts) {
        EstateDesk x = new EstateDesk();
        x.testator(Desks.LAST_DAY);
        for (int number = 1; number <= MOST; number++) {
            x.asset(number, assets, funds);
            x.debt(number, debts, 0);
            x.taker(number, 1, 40);
        }
        return x;
    }

    private static void nothingTold() {
        EstateDesk x = new EstateDesk();
        Check.state("nothing told: no day, so no settling", x::settle);
        x.testator(1);
        Check.due("nothing told: settle", x.settle(), 0);
        x.close();
        Check.due("nothing told: settle, closed", x.settle(), 0);
        for (int number = 1; number <= MOST; number++) {
            Check.due("nothing told: assetTo " + number, x.assetTo(number), EstateDesk.NONE);
            Check.due("nothing told: clauseState " + number, x.clauseState(number), EstateDesk.NONE);
            Check.due("nothing told: paid " + number, x.paid(number), 0);
            Check.due("nothing told: told " + number, x.told(number, 4), 0);
            Check.due("nothing told: gets " + number, x.gets(number, 1), 0);
        }
        for (int what = 0; what <= 7; what++) {
            Check.due("nothing told: sum " + what, x.sum(what), 0);
        }
        for (int what = 0; what <= 2; what++) {
            Check.due("nothing told: heirs at law " + what, x.gets(0, what), 0);
        }
    }

    /** Ten gifts, legacies, annuities and residue shares each. */
    private static void everythingTold() {
        EstateDesk x = Desks.full();
        Check.due("everything told: assets", x.sum(0), 1000 * 820);
        Check.due("everything told: debts paid", x.sum(1), 100 * 820);
        Check.due("everything told: own debts of the gifts 3, 6 and 9", x.sum(3), 100 * (820 - 18));
        Check.due("everything told: N", x.sum(5), 900 * 155);
        Check.due("everything told: S, but for the gifts 4 and 5, which are lapsed", x.sum(6), 1000 * (55 - 9) - 100 * 18);
        Check.due("everything told: T, with the assets 4 and 5", x.sum(2), 1000 * (820 - 55 + 9) - 900 * 155);
        Check.due("everything told: residue", x.sum(7), x.sum(2) - x.sum(3) - x.sum(4));
        Check.due("clause 1: 33 at the first rank died on day 98", x.told(1, 4), 33);
        Check.due("clause 4: 36 died on the testator's day, 37 before, 38 too; 39 too", x.clauseState(4), 1);
        Check.due("clause 5: 37 to 40 died before", x.clauseState(5), 1);
        Check.due("clause 6: 38 to 40 died before, 1 is living", x.told(6, 4), 1);
        Check.due("clause 40: 32 died on day 99", x.told(40, 4), 32);
    }

    private static void everyPersonTakes() {
        EstateDesk x = allNumbers(100, false, 0);
        for (int number = 1; number <= MOST; number++) {
            x.gift(number, number);
            for (int rank = 1; rank <= Desks.RANKS; rank++) {
                x.taker(number, rank, rank < Desks.RANKS ? 40 : number);
            }
        }
        x.person(40, Desks.LAST_DAY);
        x.settle();
        for (int number = 1; number < MOST; number++) {
            Check.due("the last rank takes " + number, x.assetTo(number), number);
            Check.due("gets " + number, x.gets(number, 0), 100);
        }
        Check.due("nobody takes 40", x.assetTo(40), EstateDesk.NONE);
        Check.due("40 is lapsed", x.clauseState(40), 1);
    }

    private static void everyAssetIsGivenToOne() {
        EstateDesk x = allNumbers(CENTS, false, 0);
        for (int number = 1; number <= MOST; number++) {
            x.gift(number, number);
        }
        Check.due("all given: settle", x.settle(), 0);
        Check.due("all given: gets", x.gets(40, 0), MOST * CENTS);
        Check.due("all given: owes", x.gets(40, 2), 0);
        Check.due("all given: assets", x.sum(0), MOST * CENTS);
        Check.due("all given: T", x.sum(2), 0);
        Check.due("all given: S", x.sum(6), MOST * CENTS);
        Check.due("all given: residue", x.sum(7), 0);
    }

    private static void everyAssetIsGone() {
        EstateDesk x = allNumbers(CENTS, false, 1);
        for (int number = 1; number <= MOST; number++) {
            x.gift(number, number);
            x.gone(number);
        }
        Check.due("all gone: nothing pays the debts", x.settle(), MOST);
        Check.due("all gone: assets", x.sum(0), 0);
        Check.due("all gone: paid", x.sum(1), 0);
        for (int number = 1; number <= MOST; number++) {
            Check.due("all gone: failed, not abated " + number, x.clauseState(number), 2);
        }
    }

    private static void ownDebtsAtTheirGreatest() {
        EstateDesk x = allNumbers(CENTS, false, 0);
        for (int number = 1; number <= MOST; number++) {
            x.gift(number, number);
            x.debt(number, CENTS, number);
        }
        Check.due("own debts: no shortage", x.settle(), 0);
        Check.due("own debts: owes all", x.gets(40, 2), MOST * CENTS);
        Check.due("own debts: gets all", x.gets(40, 0), MOST * CENTS);
        Check.due("own debts: paid", x.sum(1), MOST * CENTS);
        Check.due("own debts: D", x.sum(3), 0);
        Check.due("own debts: S", x.sum(6), 0);
        Check.due("own debts: the last is good", x.clauseState(40), 0);
    }

    private static void allDebtsOnOneAsset() {
        EstateDesk x = allNumbers(0, false, 0);
        x.revalue(7, CENTS);
        x.gift(40, 7);
        for (int number = 1; number <= MOST; number++) {
            x.debt(number, CENTS / MOST, 7);
        }
        x.settle();
        Check.due("40 own debts: just the value", x.sum(3), 0);
        Check.due("40 own debts: owes", x.gets(40, 2), CENTS);
        x.debt(40, CENTS, 7);
        Check.due("40 own debts: the last is above", x.settle(), CENTS - CENTS / MOST);
        Check.due("40 own debts: the last's own part", x.paid(40), CENTS / MOST);
        x.debt(1, CENTS, 7);
        Check.due("40 own debts: the first takes all", x.settle(), CENTS / MOST * 38 + CENTS);
        Check.due("40 own debts: nothing for the second", x.paid(2), 0);
    }

    private static void giftsBearTheGreatest() {
        EstateDesk x = allNumbers(CENTS, false, CENTS);
        for (int number = 1; number <= MOST; number++) {
            x.gift(number, number);
        }
        Check.due("gifts bear all: D is S", x.settle(), 0);
        Check.due("gifts bear all: owes", x.gets(40, 2), MOST * CENTS);
        Check.due("gifts bear all: the last one", x.told(40, 1), CENTS);
        Check.due("gifts bear all: still gets it", x.assetTo(40), 40);
        x.debt(20, CENTS - 1, 0);
        Check.due("gifts bear all but a cent", x.settle(), 0);
        Check.due("equal rests: the lesser numbers bear one more", x.told(39, 1), CENTS);
        Check.due("equal rests: the last does not", x.told(40, 1), CENTS - 1);
        Check.due("gifts bear all but a cent: owes", x.gets(40, 2), MOST * CENTS - 1);
    }

    private static void generalPartsAtTheirGreatest() {
        EstateDesk x = allNumbers(CENTS, false, 0);
        for (int number = 1; number <= MOST; number++) {
            x.legacy(number, CENTS, 0);
        }
        x.settle();
        Check.due("G: all of T", x.sum(4), MOST * CENTS);
        Check.due("G: gets all", x.gets(40, 1), MOST * CENTS);
        Check.due("G: no residue", x.sum(7), 0);
        x.debt(40, 1, 0);
        x.settle();
        Check.due("G: one cent, the least number bears it", x.told(1, 1), 1);
        Check.due("G: the others are good", x.clauseState(2), 0);
        Check.due("G: gets", x.gets(40, 1), MOST * CENTS - 1);
        for (int number = 1; number <= MOST; number++) {
            x.debt(number, CENTS, 0);
        }
        Check.due("G: D is T", x.settle(), 0);
        Check.due("G: all is borne", x.told(40, 1), CENTS);
        Check.due("G: gets nothing", x.gets(40, 1), 0);
    }

    private static void drawnPartsAtTheirGreatest() {
        EstateDesk x = allNumbers(CENTS, true, CENTS);
        for (int number = 1; number <= MOST; number++) {
            x.legacy(number, CENTS, number);
        }
        Check.due("N: D is N", x.settle(), 0);
        Check.due("N", x.sum(5), MOST * CENTS);
        Check.due("N: T", x.sum(2), 0);
        Check.due("N: all is borne", x.told(40, 1), CENTS);
        x.debt(1, CENTS - 39, 0);
        x.settle();
        Check.due("N: 39 less, one rest for the least number", x.told(1, 1), CENTS);
        Check.due("N: 39 less, equal rests", x.told(2, 1), CENTS - 1);
        Check.due("N: gets", x.gets(40, 1), 39);
    }

    private static void allLegaciesOutOfOneFund() {
        EstateDesk x = allNumbers(0, true, 0);
        x.revalue(40, CENTS);
        for (int number = 1; number <= MOST; number++) {
            x.legacy(number, CENTS / MOST, 40);
        }
        x.settle();
        Check.due("one fund: just enough", x.sum(5), CENTS);
        Check.due("one fund: the last draws all of its own", x.told(40, 2), CENTS / MOST);
        x.revalue(40, CENTS - 1);
        x.settle();
        Check.due("one fund: a cent is lacking for the last", x.told(40, 2), CENTS / MOST - 1);
        Check.due("one fund: G", x.sum(4), 1);
        Check.due("one fund: the last bears it", x.clauseState(40), 3);
        x.legacy(1, CENTS, 40);
        x.settle();
        Check.due("one fund: the first empties it", x.told(1, 2), CENTS - 1);
        Check.due("one fund: nothing for the second", x.told(2, 2), 0);
        Check.due("one fund: G", x.sum(4), 1 + CENTS / MOST * 39);
        Check.due("one fund: T", x.sum(2), 0);
    }

    private static void annuitiesAtTheirGreatest() {
        EstateDesk x = allNumbers(CENTS, false, 0);
        for (int number = 1; number <= MOST; number++) {
            x.annuity(number, 1000000000L, 0);
        }
        x.settle();
        Check.due("annuities: G", x.sum(4), MOST * 23594306000L);
        Check.due("annuities: gets", x.gets(40, 1), MOST * 23594306000L);
        Check.due("annuities: residue", x.gets(0, 1), MOST * (CENTS - 23594306000L));
        for (int number = 1; number <= MOST; number++) {
            x.gone(number);
        }
        x.settle();
        Check.due("annuities: all is borne", x.told(40, 1), 23594306000L);
    }

    private static void residueAtItsGreatest() {
        EstateDesk x = allNumbers(CENTS, false, 0);
        x.settle();
        Check.due("residue: heirs at law", x.gets(0, 1), MOST * CENTS);
        x.residue(40, 1);
        x.settle();
        Check.due("residue: one part gets all", x.told(40, 3), MOST * CENTS);
        Check.due("residue: T", x.sum(2), MOST * CENTS);
        Check.due("residue", x.sum(7), MOST * CENTS);
        for (int number = 1; number <= MOST; number++) {
            x.residue(number, 1000);
        }
        x.settle();
        Check.due("residue: 1000 parts of 40000", x.told(1, 3), CENTS);
        Check.due("residue: to one person", x.gets(40, 1), MOST * CENTS);
        x.revalue(1, CENTS - 1);
        x.settle();
        Check.due("residue: a cent less, equal rests", x.told(39, 3), CENTS);
        Check.due("residue: a cent less, the last number", x.told(40, 3), CENTS - 1);
    }

    private static void shortageAtItsGreatest() {
        EstateDesk x = new EstateDesk();
        x.testator(1);
        for (int number = 1; number <= MOST; number++) {
            x.debt(number, CENTS, 0);
        }
        Check.due("shortage of all", x.settle(), MOST * CENTS);
        Check.due("shortage of all: D", x.sum(3), MOST * CENTS);
        Check.due("shortage of all: paid", x.paid(1), 0);
        Check.due("shortage of all: paid", x.sum(1), 0);
        x.asset(1, 1, false);
        Check.due("shortage but for a cent", x.settle(), MOST * CENTS - 1);
        Check.due("shortage but for a cent: the least number", x.paid(1), 1);
        Check.due("shortage but for a cent: no other", x.paid(2), 0);
        for (int number = 1; number <= MOST; number++) {
            x.legacy(number, CENTS, 0);
            x.taker(number, 1, number);
        }
        Check.due("shortage of all, and legacies of the greatest", x.settle(), MOST * CENTS - 1);
        for (int number = 1; number <= MOST; number++) {
            Check.due("shortage: borne by " + number, x.told(number, 1), CENTS);
            Check.due("shortage: state of " + number, x.clauseState(number), 3);
            Check.due("shortage: got by " + number, x.gets(number, 1), 0);
        }
        Check.due("shortage: G", x.sum(4), MOST * CENTS);
    }

    /** Weights that differ just below the greatest, and an amount just below their sum: products of some 4 * 10^25. */
    private static void splitAtItsGreatest() {
        long[] weights = new long[MOST + 1];
        EstateDesk x = new EstateDesk();
        x.testator(1);
        for (int number = 1; number <= MOST; number++) {
            weights[number] = CENTS - (number * 7919L) % 1009;
            x.debt(number, weights[number], 0);
            x.asset(number, CENTS - 1009, false);
        }
        long[] lastAsset = {CENTS - 1009, 0, 1, 123456789012L, 999999000001L};
        for (long cents : lastAsset) {
            x.revalue(40, cents);
            x.settle();
            long[] due = split(39 * (CENTS - 1009) + cents, weights);
            for (int number = 1; number <= MOST; number++) {
                Check.due("split of the greatest, asset 40 of " + cents + ": paid " + number, x.paid(number), due[number]);
            }
        }
    }

    private static void splitOfResidueAtItsGreatest() {
        long[] parts = new long[MOST + 1];
        EstateDesk x = allNumbers(CENTS, false, 0);
        for (int number = 1; number <= MOST; number++) {
            parts[number] = 1000 - (number * 31L) % 37;
            x.residue(number, (int) parts[number]);
        }
        x.settle();
        long[] due = split(MOST * CENTS, parts);
        for (int number = 1; number <= MOST; number++) {
            Check.due("split of the greatest residue: " + number, x.told(number, 3), due[number]);
        }
    }

    /** SPLIT as the document tells it, with numbers that have no end. */
    private static long[] split(long amount, long[] weights) {
        BigInteger whole = BigInteger.ZERO;
        for (long weight : weights) {
            whole = whole.add(BigInteger.valueOf(weight));
        }
        long[] shares = new long[weights.length];
        BigInteger[] rests = new BigInteger[weights.length];
        long lacking = amount;
        for (int number = 0; number < weights.length; number++) {
            BigInteger[] parts = BigInteger.valueOf(amount).multiply(BigInteger.valueOf(weights[number])).divideAndRemainder(whole);
            shares[number] = parts[0].longValueExact();
            rests[number] = parts[1];
            lacking -= shares[number];
        }
        for (; lacking > 0; lacking--) {
            int greatest = 0;
            for (int number = 1; number < weights.length; number++) {
                greatest = rests[number].compareTo(rests[greatest]) > 0 ? number : greatest;
            }
            shares[greatest]++;
            rests[greatest] = BigInteger.ONE.negate();
        }
        return shares;
    }

    /** "An object is used for at most 512 calls after it has been made": the last ones are answered like the first. */
    private static void lastOf512Calls() {
        EstateDesk x = new EstateDesk();
        x.testator(1);
        x.asset(1, 0, true);
        x.residue(1, 1);
        for (int call = 4; call <= 506; call++) {
            Check.due("call " + call, x.revalue(1, call), call == 4 ? 0 : call - 1);
        }
        x.taker(1, 1, 1);
        Check.argument("call 508", () -> x.revalue(2, 1));
        Check.due("call 509", x.settle(), 0);
        x.close();
        Check.state("call 511", () -> x.revalue(1, 1));
        Check.due("call 512", x.gets(1, 1), 506);
        EstateDesk y = new EstateDesk();
        y.testator(1);
        y.debt(1, 1, 0);
        for (int call = 3; call <= 511; call++) {
            Check.due("settled in call " + call, y.settle(), 1);
        }
        Check.due("call 512", y.clauseState(1), EstateDesk.NONE);
    }

    /** All objects of a run share 600,000 objects and 7.3 million elements: room for some thousands of desks, full ones too. */
    private static void roomOfADesk() {
        for (EstateDesk desk : new EstateDesk[] {new EstateDesk(), Desks.full(), Desks.closed()}) {
            Set<Object> objects = Collections.newSetFromMap(new IdentityHashMap<>());
            long elements = fieldsAndElements(desk, objects);
            Check.due("objects of a desk", Math.max(100, objects.size()), 100);
            Check.due("fields and elements of a desk", Math.max(2000, elements), 2000);
        }
    }

    private static long fieldsAndElements(Object object, Set<Object> seen) {
        if (object == null || !seen.add(object)) {
            return 0;
        }
        long count = 0;
        if (object.getClass().isArray()) {
            int length = Array.getLength(object);
            boolean isOfObjects = !object.getClass().getComponentType().isPrimitive();
            for (int place = 0; isOfObjects && place < length; place++) {
                count += fieldsAndElements(Array.get(object, place), seen);
            }
            return count + length;
        }
        for (Field field : object.getClass().getDeclaredFields()) {
            if (!Modifier.isStatic(field.getModifiers())) {
                count += 1 + (field.getType().isPrimitive() ? 0 : fieldsAndElements(valueOf(field, object), seen));
            }
        }
        return count;
    }

    private static Object valueOf(Field field, Object object) {
        try {
            field.setAccessible(true);
            return field.get(object);
        } catch (IllegalAccessException e) {
            throw new IllegalStateException(e);
        }
    }
}
