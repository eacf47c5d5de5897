import java.util.function.Supplier;

/**
 * "A call that throws changes nothing; where it lists more than one exception, the first one wins." Every exception that a call
 * lists, in every situation of a desk, and behind each refused call all that can be found out about the desk.
 */
public final class RefusalsTest {
    private static final String ARGUMENT = "IllegalArgumentException";
    private static final String STATE = "IllegalStateException";
    private static final long TOO_MUCH = Desks.MOST_CENTS + 1;

    private interface Call {
        void on(EstateDesk desk);
    }

    private final Supplier<EstateDesk> maker;
    private final String situation;
    private final String before;

    private RefusalsTest(String situation, Supplier<EstateDesk> maker) {
        this.situation = situation;
        this.maker = maker;
        before = Probe.all(maker);
    }

    public static void main(String[] args) {
        probeSeesEveryFact();
        RefusalsTest fresh = new RefusalsTest("new", EstateDesk::new);
        fresh.refuseWrongNumbers();
        fresh.refuseWrongNumbersOfAnswers();
        fresh.refuseWhatANewDeskLacks();
        RefusalsTest settled = new RefusalsTest("settled", Desks::settled);
        settled.refuseWrongNumbers();
        settled.refuseWrongNumbersOfAnswers();
        settled.refuseWhatTheWillStandsAgainst();
        RefusalsTest behind = new RefusalsTest("a fact behind the settling", Desks::withAFactBehindTheSettling);
        behind.refuseWrongNumbers();
        behind.refuseWhatTheWillStandsAgainst();
        behind.refuse(STATE, "close", EstateDesk::close);
        RefusalsTest inShortage = new RefusalsTest("in shortage", Desks::inShortage);
        inShortage.refuseWrongNumbers();
        inShortage.refuseWhatTheWillStandsAgainst();
        RefusalsTest closed = new RefusalsTest("closed", Desks::closed);
        closed.refuseWrongNumbers();
        closed.refuseWrongNumbersOfAnswers();
        closed.refuseWhatTheWillStandsAgainst();
        closed.refuseEveryFact();
        RefusalsTest full = new RefusalsTest("full", Desks::full);
        full.refuseWrongNumbers();
        full.refuseWhatAFullDeskStandsAgainst();
        Check.end();
    }

    private void refuse(String exception, String name, Call call) {
        String what = situation + ": " + name;
        Check.due(what, Check.outcome(() -> {
            call.on(maker.get());
            return 0;
        }), exception);
        String after = Probe.all(() -> {
            EstateDesk desk = maker.get();
            Check.outcome(() -> {
                call.on(desk);
                return 0;
            });
            return desk;
        });
        Check.due(what + ": what it changed", Probe.difference(before, after), "");
    }

    /** Were the probe blind for a fact, no test here would see that a refused call told it. */
    private static void probeSeesEveryFact() {
        String before = Probe.all(Desks::settled);
        Call[] facts = {
            x -> x.testator(98), x -> x.testator(100), x -> x.person(1, 100), x -> x.asset(5, 0, false), x -> x.revalue(1, 50001),
            x -> x.gone(2), x -> x.gift(9, 40), x -> x.legacy(2, 40001, 2), x -> x.legacy(2, 40000, 0), x -> x.annuity(4, 1001, 50),
            x -> x.annuity(4, 1000, 51), x -> x.residue(9, 2), x -> x.strike(7), x -> x.strike(9), x -> x.taker(9, 1, 0),
            x -> x.taker(30, 4, 1), x -> x.charge(8, true), x -> x.charge(1, false), x -> x.debt(3, 50, 0), x -> x.debt(4, 1, 0),
            EstateDesk::close,
        };
        for (int fact = 0; fact < facts.length; fact++) {
            int which = fact;
            String after = Probe.all(() -> {
                EstateDesk desk = Desks.settled();
                facts[which].on(desk);
                return desk;
            });
            Check.due("the probe sees fact " + fact, Probe.difference(before, after).isEmpty() ? 0 : 1, 1);
        }
    }

    /** "IllegalArgument: also where a number is none of those told here", which wins over every IllegalState. */
    private void refuseWrongNumbers() {
        refuse(ARGUMENT, "testator(0)", x -> x.testator(0));
        refuse(ARGUMENT, "testator(100001)", x -> x.testator(100001));
        refuse(ARGUMENT, "person(0, 5)", x -> x.person(0, 5));
        refuse(ARGUMENT, "person(41, 5)", x -> x.person(41, 5));
        refuse(ARGUMENT, "person(1, -1)", x -> x.person(1, -1));
        refuse(ARGUMENT, "person(1, 100001)", x -> x.person(1, 100001));
        refuse(ARGUMENT, "asset(0, 1, true)", x -> x.asset(0, 1, true));
        refuse(ARGUMENT, "asset(41, 1, true)", x -> x.asset(41, 1, true));
        refuse(ARGUMENT, "asset(5, -1, true)", x -> x.asset(5, -1, true));
        refuse(ARGUMENT, "asset(5, 10^12 + 1, true)", x -> x.asset(5, TOO_MUCH, true));
        refuse(ARGUMENT, "asset(1, -1, true)", x -> x.asset(1, -1, true));
        refuse(ARGUMENT, "revalue(0, 1)", x -> x.revalue(0, 1));
        refuse(ARGUMENT, "revalue(41, 1)", x -> x.revalue(41, 1));
        refuse(ARGUMENT, "revalue(1, -1)", x -> x.revalue(1, -1));
        refuse(ARGUMENT, "revalue(1, 10^12 + 1)", x -> x.revalue(1, TOO_MUCH));
        refuse(ARGUMENT, "gone(0)", x -> x.gone(0));
        refuse(ARGUMENT, "gone(41)", x -> x.gone(41));
        refuse(ARGUMENT, "gift(0, 40)", x -> x.gift(0, 40));
        refuse(ARGUMENT, "gift(41, 40)", x -> x.gift(41, 40));
        refuse(ARGUMENT, "gift(41, 1)", x -> x.gift(41, 1));
        refuse(ARGUMENT, "gift(9, 0)", x -> x.gift(9, 0));
        refuse(ARGUMENT, "gift(9, 41)", x -> x.gift(9, 41));
        refuse(ARGUMENT, "legacy(0, 1, 0)", x -> x.legacy(0, 1, 0));
        refuse(ARGUMENT, "legacy(41, 1, 0)", x -> x.legacy(41, 1, 0));
        refuse(ARGUMENT, "legacy(7, -1, 0)", x -> x.legacy(7, -1, 0));
        refuse(ARGUMENT, "legacy(7, 10^12 + 1, 0)", x -> x.legacy(7, TOO_MUCH, 0));
        refuse(ARGUMENT, "legacy(7, 1, -1)", x -> x.legacy(7, 1, -1));
        refuse(ARGUMENT, "legacy(7, 1, 41)", x -> x.legacy(7, 1, 41));
        refuse(ARGUMENT, "legacy(9, -1, 3)", x -> x.legacy(9, -1, 3));
        refuse(ARGUMENT, "annuity(0, 1, 1)", x -> x.annuity(0, 1, 1));
        refuse(ARGUMENT, "annuity(41, 1, 1)", x -> x.annuity(41, 1, 1));
        refuse(ARGUMENT, "annuity(4, -1, 1)", x -> x.annuity(4, -1, 1));
        refuse(ARGUMENT, "annuity(4, 10^9 + 1, 1)", x -> x.annuity(4, 1000000001L, 1));
        refuse(ARGUMENT, "annuity(4, 1, -1)", x -> x.annuity(4, 1, -1));
        refuse(ARGUMENT, "annuity(4, 1, 100)", x -> x.annuity(4, 1, 100));
        refuse(ARGUMENT, "residue(0, 1)", x -> x.residue(0, 1));
        refuse(ARGUMENT, "residue(41, 1)", x -> x.residue(41, 1));
        refuse(ARGUMENT, "residue(5, 0)", x -> x.residue(5, 0));
        refuse(ARGUMENT, "residue(5, 1001)", x -> x.residue(5, 1001));
        refuse(ARGUMENT, "strike(0)", x -> x.strike(0));
        refuse(ARGUMENT, "strike(41)", x -> x.strike(41));
        refuse(ARGUMENT, "taker(0, 1, 1)", x -> x.taker(0, 1, 1));
        refuse(ARGUMENT, "taker(41, 1, 1)", x -> x.taker(41, 1, 1));
        refuse(ARGUMENT, "taker(9, 0, 1)", x -> x.taker(9, 0, 1));
        refuse(ARGUMENT, "taker(9, 5, 1)", x -> x.taker(9, 5, 1));
        refuse(ARGUMENT, "taker(9, 1, -1)", x -> x.taker(9, 1, -1));
        refuse(ARGUMENT, "taker(9, 1, 41)", x -> x.taker(9, 1, 41));
        refuse(ARGUMENT, "charge(0, false)", x -> x.charge(0, false));
        refuse(ARGUMENT, "charge(41, false)", x -> x.charge(41, false));
        refuse(ARGUMENT, "debt(0, 1, 0)", x -> x.debt(0, 1, 0));
        refuse(ARGUMENT, "debt(41, 1, 0)", x -> x.debt(41, 1, 0));
        refuse(ARGUMENT, "debt(2, -1, 0)", x -> x.debt(2, -1, 0));
        refuse(ARGUMENT, "debt(2, 10^12 + 1, 0)", x -> x.debt(2, TOO_MUCH, 0));
        refuse(ARGUMENT, "debt(2, 1, -1)", x -> x.debt(2, 1, -1));
        refuse(ARGUMENT, "debt(2, 1, 41)", x -> x.debt(2, 1, 41));
    }

    private void refuseWrongNumbersOfAnswers() {
        refuse(ARGUMENT, "gets(-1, 0)", x -> x.gets(-1, 0));
        refuse(ARGUMENT, "gets(41, 0)", x -> x.gets(41, 0));
        refuse(ARGUMENT, "gets(0, -1)", x -> x.gets(0, -1));
        refuse(ARGUMENT, "gets(0, 3)", x -> x.gets(0, 3));
        refuse(ARGUMENT, "assetTo(0)", x -> x.assetTo(0));
        refuse(ARGUMENT, "assetTo(41)", x -> x.assetTo(41));
        refuse(ARGUMENT, "clauseState(0)", x -> x.clauseState(0));
        refuse(ARGUMENT, "clauseState(41)", x -> x.clauseState(41));
        refuse(ARGUMENT, "told(0, 0)", x -> x.told(0, 0));
        refuse(ARGUMENT, "told(41, 0)", x -> x.told(41, 0));
        refuse(ARGUMENT, "told(1, -1)", x -> x.told(1, -1));
        refuse(ARGUMENT, "told(1, 5)", x -> x.told(1, 5));
        refuse(ARGUMENT, "told(40, 5), of no clause", x -> x.told(40, 5));
        refuse(ARGUMENT, "paid(0)", x -> x.paid(0));
        refuse(ARGUMENT, "paid(41)", x -> x.paid(41));
        refuse(ARGUMENT, "sum(-1)", x -> x.sum(-1));
        refuse(ARGUMENT, "sum(8)", x -> x.sum(8));
        refuse(ARGUMENT, "worth(-1, 0)", x -> x.worth(-1, 0));
        refuse(ARGUMENT, "worth(10^9 + 1, 0)", x -> x.worth(1000000001L, 0));
        refuse(ARGUMENT, "worth(1, -1)", x -> x.worth(1, -1));
        refuse(ARGUMENT, "worth(1, 100)", x -> x.worth(1, 100));
    }

    /** No asset, no gift, no testator's day, nothing settled. */
    private void refuseWhatANewDeskLacks() {
        refuse(ARGUMENT, "revalue(1, 1)", x -> x.revalue(1, 1));
        refuse(ARGUMENT, "gone(1)", x -> x.gone(1));
        refuse(ARGUMENT, "gift(1, 1)", x -> x.gift(1, 1));
        refuse(ARGUMENT, "legacy(1, 1, 1)", x -> x.legacy(1, 1, 1));
        refuse(ARGUMENT, "charge(1, true)", x -> x.charge(1, true));
        refuse(ARGUMENT, "debt(1, 1, 1)", x -> x.debt(1, 1, 1));
        refuse(STATE, "settle()", EstateDesk::settle);
        refuse(STATE, "gets(0, 0)", x -> x.gets(0, 0));
        refuse(STATE, "gets(40, 2)", x -> x.gets(40, 2));
        refuse(STATE, "assetTo(1)", x -> x.assetTo(1));
        refuse(STATE, "clauseState(40)", x -> x.clauseState(40));
        refuse(STATE, "told(1, 0)", x -> x.told(1, 0));
        refuse(STATE, "told(40, 4)", x -> x.told(40, 4));
        refuse(STATE, "paid(1)", x -> x.paid(1));
        refuse(STATE, "sum(0)", x -> x.sum(0));
        refuse(STATE, "sum(7)", x -> x.sum(7));
        refuse(STATE, "close()", EstateDesk::close);
    }

    /** By what Desks.settled has told; each of these also holds of a closed account. */
    private void refuseWhatTheWillStandsAgainst() {
        refuse(STATE, "asset(1, 5, true): there is one", x -> x.asset(1, 5, true));
        refuse(STATE, "asset(4, 5, true): there is one, gone", x -> x.asset(4, 5, true));
        refuse(STATE, "asset(40, 50000, false): there is the same one", x -> x.asset(40, 50000, false));
        refuse(ARGUMENT, "revalue(5, 1): no such asset", x -> x.revalue(5, 1));
        refuse(ARGUMENT, "gone(39): no such asset", x -> x.gone(39));
        refuse(ARGUMENT, "gift(9, 5): no such asset", x -> x.gift(9, 5));
        refuse(ARGUMENT, "gift(1, 5): no such asset", x -> x.gift(1, 5));
        refuse(STATE, "gift(9, 1): in another gift", x -> x.gift(9, 1));
        refuse(STATE, "gift(8, 1): in another gift", x -> x.gift(8, 1));
        refuse(STATE, "gift(9, 2): in a legacy", x -> x.gift(9, 2));
        refuse(STATE, "gift(9, 4): in another gift, which has failed", x -> x.gift(9, 4));
        refuse(ARGUMENT, "legacy(7, 1, 5): no such asset", x -> x.legacy(7, 1, 5));
        refuse(ARGUMENT, "legacy(7, 1, 40): no fund", x -> x.legacy(7, 1, 40));
        refuse(ARGUMENT, "legacy(7, 1, 1): no fund, and in a gift", x -> x.legacy(7, 1, 1));
        refuse(ARGUMENT, "legacy(1, 1, 1): no fund, in its own gift", x -> x.legacy(1, 1, 1));
        refuse(STATE, "legacy(7, 1, 3): in a gift", x -> x.legacy(7, 1, 3));
        refuse(STATE, "legacy(9, 0, 3): in a gift", x -> x.legacy(9, 0, 3));
        refuse(ARGUMENT, "charge(2, false): a legacy", x -> x.charge(2, false));
        refuse(ARGUMENT, "charge(4, false): an annuity", x -> x.charge(4, false));
        refuse(ARGUMENT, "charge(5, false): a residue share", x -> x.charge(5, false));
        refuse(ARGUMENT, "charge(9, false): no clause, with a person named", x -> x.charge(9, false));
        refuse(ARGUMENT, "charge(40, true): no clause", x -> x.charge(40, true));
        refuse(ARGUMENT, "debt(1, 1, 5): no such asset", x -> x.debt(1, 1, 5));
        refuse(ARGUMENT, "debt(4, 1, 39): no such asset", x -> x.debt(4, 1, 39));
    }

    /** "IllegalState: also, of all calls that tell facts (testator to debt, and close), where the account is CLOSED." */
    private void refuseEveryFact() {
        refuse(STATE, "testator(1)", x -> x.testator(1));
        refuse(STATE, "testator(100): the same", x -> x.testator(100));
        refuse(STATE, "person(1, 1)", x -> x.person(1, 1));
        refuse(STATE, "person(3, 0)", x -> x.person(3, 0));
        refuse(STATE, "asset(5, 1, true)", x -> x.asset(5, 1, true));
        refuse(STATE, "revalue(1, 1)", x -> x.revalue(1, 1));
        refuse(STATE, "gone(1)", x -> x.gone(1));
        refuse(STATE, "gone(4): is so", x -> x.gone(4));
        refuse(STATE, "gift(1, 40)", x -> x.gift(1, 40));
        refuse(STATE, "gift(8, 3): the same", x -> x.gift(8, 3));
        refuse(STATE, "legacy(2, 1, 2)", x -> x.legacy(2, 1, 2));
        refuse(STATE, "legacy(9, 1, 0)", x -> x.legacy(9, 1, 0));
        refuse(STATE, "annuity(4, 1, 1)", x -> x.annuity(4, 1, 1));
        refuse(STATE, "residue(5, 1)", x -> x.residue(5, 1));
        refuse(STATE, "strike(1)", x -> x.strike(1));
        refuse(STATE, "strike(40): no clause", x -> x.strike(40));
        refuse(STATE, "taker(1, 1, 1)", x -> x.taker(1, 1, 1));
        refuse(STATE, "taker(40, 4, 0)", x -> x.taker(40, 4, 0));
        refuse(STATE, "charge(8, true)", x -> x.charge(8, true));
        refuse(STATE, "debt(1, 1, 0)", x -> x.debt(1, 1, 0));
        refuse(STATE, "debt(40, 0, 0)", x -> x.debt(40, 0, 0));
        refuse(STATE, "close()", EstateDesk::close);
    }

    private void refuseWhatAFullDeskStandsAgainst() {
        for (int number = 1; number <= Desks.MOST; number += 13) {
            int which = number;
            refuse(STATE, "asset " + number + ": there is one", x -> x.asset(which, 1, true));
        }
        refuse(STATE, "gift(40, 1): in the first gift", x -> x.gift(40, 1));
        refuse(STATE, "gift(1, 20): in the last legacy", x -> x.gift(1, 20));
        refuse(ARGUMENT, "legacy(20, 1, 10): no fund, and in a gift", x -> x.legacy(20, 1, 10));
        refuse(ARGUMENT, "charge(40, true): a residue share", x -> x.charge(40, true));
    }
}
