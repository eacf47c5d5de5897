import java.util.function.Supplier;

/** Promises 15 to 22: what the answers stand by, what a settling anew and what close leave as it was. */
public final class LastSettlingTest {
    private interface Call {
        void on(EstateDesk desk);
    }

    private static final Call[] FACTS = {
        x -> x.testator(1), x -> x.testator(100000), x -> x.person(1, 1), x -> x.person(2, 0), x -> x.asset(39, 1000000, true),
        x -> x.revalue(1, 0), x -> x.revalue(2, 1000000000000L), x -> x.gone(1), x -> x.gone(2), x -> x.gift(9, 40), x -> x.gift(1, 40),
        x -> x.legacy(1, 9, 0), x -> x.legacy(2, 9, 2), x -> x.annuity(5, 1000000000L, 0), x -> x.residue(2, 1000), x -> x.strike(1),
        x -> x.strike(2), x -> x.strike(5), x -> x.taker(1, 1, 1), x -> x.taker(2, 1, 0), x -> x.charge(1, false), x -> x.charge(8, true),
        x -> x.debt(1, 1000000000000L, 0), x -> x.debt(2, 0, 0), x -> x.debt(40, 5, 1),
    };
    private static final Call[] QUESTIONS = {
        x -> x.gets(0, 1), x -> x.assetTo(1), x -> x.clauseState(1), x -> x.told(1, 0), x -> x.paid(1), x -> x.sum(0), x -> x.worth(1, 1),
    };

    public static void main(String[] args) {
        factsChangeNoAnswer("settled", Desks::settled);
        factsChangeNoAnswer("in shortage", Desks::inShortage);
        settlingAnewIsTheSame("settled", Desks::settled);
        settlingAnewIsTheSame("in shortage", Desks::inShortage);
        settlingAnewIsTheSame("full", Desks::full);
        settlingAnewIsTheSame("closed", Desks::closed);
        closeChangesNoAnswer("settled", Desks::settled);
        closeChangesNoAnswer("in shortage", Desks::inShortage);
        closeChangesNoAnswer("full", Desks::full);
        questionsChangeNothing("settled", Desks::settled);
        questionsChangeNothing("in shortage", Desks::inShortage);
        questionsChangeNothing("closed", Desks::closed);
        settleNeedsTheDayAlone();
        closeNeedsASettlingBehindTheLastFact();
        closedForGood();
        shortageComesAndGoes();
        Check.end();
    }

    private static EstateDesk after(Supplier<EstateDesk> maker, Call call) {
        EstateDesk desk = maker.get();
        call.on(desk);
        return desk;
    }

    private static void factsChangeNoAnswer(String situation, Supplier<EstateDesk> maker) {
        Check.by("by the last settling");
        String due = Probe.lastSettling(maker);
        for (int fact = 0; fact < FACTS.length; fact++) {
            Call call = FACTS[fact];
            String got = Probe.lastSettling(() -> after(maker, call));
            Check.due(situation + ": what fact " + fact + " changed", Probe.difference(due, got), "");
        }
    }

    private static void settlingAnewIsTheSame(String situation, Supplier<EstateDesk> maker) {
        Check.by("also CLOSED it may be settled: the same comes of it");
        String due = Probe.all(maker);
        String got = Probe.all(() -> after(maker, EstateDesk::settle));
        Check.due(situation + ": what settling twice changed", Probe.difference(due, got), "");
        Check.due(situation + ": the same shortage", maker.get().settle(), after(maker, EstateDesk::settle).settle());
    }

    private static void closeChangesNoAnswer(String situation, Supplier<EstateDesk> maker) {
        Check.by("The account is CLOSED.");
        String due = Probe.lastSettling(maker);
        Supplier<EstateDesk> closed = () -> after(maker, EstateDesk::close);
        Supplier<EstateDesk> settledThen = () -> after(closed, EstateDesk::settle);
        Check.due(situation + ": what close changed", Probe.difference(due, Probe.lastSettling(closed)), "");
        Check.due(situation + ": what settling changed then", Probe.difference(due, Probe.lastSettling(settledThen)), "");
        Check.due(situation + ": the same shortage", closed.get().settle(), maker.get().settle());
    }

    private static void questionsChangeNothing(String situation, Supplier<EstateDesk> maker) {
        Check.by("no settling came behind the last fact told");
        String due = Probe.all(maker);
        for (int question = 0; question < QUESTIONS.length; question++) {
            Call call = QUESTIONS[question];
            String got = Probe.all(() -> after(maker, call));
            Check.due(situation + ": what question " + question + " changed", Probe.difference(due, got), "");
        }
    }

    private static void settleNeedsTheDayAlone() {
        Check.by("IllegalState: the testator's DAY was not told");
        EstateDesk x = new EstateDesk();
        x.person(1, 5);
        x.asset(1, 10, true);
        x.gift(1, 1);
        x.taker(1, 1, 2);
        x.debt(1, 4, 1);
        Check.state("all but the day", x::settle);
        Check.argument("a wrong day", () -> x.testator(0));
        Check.state("is not told", x::settle);
        Check.state("nothing was settled", () -> x.sum(0));
        Check.state("nor can it be closed", x::close);
        Check.passes("it is open", () -> x.testator(1));
        Check.due("settled", x.settle(), 0);
        Check.due("what was told before the day counts", x.gets(2, 2), 4);
        EstateDesk y = new EstateDesk();
        y.testator(100000);
        Check.due("the day alone", y.settle(), 0);
        Check.passes("may be closed", y::close);
    }

    private static void closeNeedsASettlingBehindTheLastFact() {
        Check.by("IllegalState: also if no settling came behind the last fact told.");
        Check.state("nothing told, nothing settled", new EstateDesk()::close);
        for (int fact = 0; fact < FACTS.length; fact++) {
            EstateDesk x = Desks.settled();
            FACTS[fact].on(x);
            Check.state("behind fact " + fact, x::close);
            Check.passes("it is open behind fact " + fact, () -> x.strike(40));
            Check.state("still not", x::close);
            x.settle();
            Check.passes("settled behind fact " + fact, x::close);
        }
        EstateDesk y = Desks.settled();
        y.settle();
        Check.passes("settled twice", y::close);
        EstateDesk z = Desks.settled();
        Check.argument("a refused fact", () -> z.debt(41, 1, 0));
        Check.state("another", () -> z.asset(1, 1, true));
        Check.passes("is none", z::close);
    }

    private static void closedForGood() {
        Check.by("IllegalState: also, of all calls that tell facts (testator to debt, and close), where the account is CLOSED.");
        EstateDesk x = Desks.closed();
        Check.state("closed twice", x::close);
        x.settle();
        Check.state("closed behind a settling", x::close);
        Check.state("nor a fact", () -> x.testator(100));
        Check.due("answers", x.gets(3, 0), 50000);
        Check.argument("worth, wrong", () -> x.worth(1, 100));
        Check.due("worth", x.worth(25, 99), 24);
    }

    private static void shortageComesAndGoes() {
        Check.by("SETTLING: the SHORTAGE, 0 without one.");
        String due = Probe.lastSettling(Desks::settled);
        String got = Probe.lastSettling(() -> {
            EstateDesk x = Desks.settled();
            x.debt(40, 1000000000000L, 0);
            Check.due("a shortage", x.settle() > 0 ? 1 : 0, 1);
            x.debt(40, 0, 0);
            Check.due("none any more", x.settle(), 0);
            return x;
        });
        Check.due("what the shortage left", Probe.difference(due, got), "");
        String dueShort = Probe.lastSettling(LastSettlingTest::inShortageAtFirst);
        Check.due("what was left in a shortage", Probe.difference(dueShort, Probe.lastSettling(Desks::inShortage)), "");
    }

    /** As Desks.inShortage, but no settling without the shortage came before. */
    private static EstateDesk inShortageAtFirst() {
        EstateDesk x = new EstateDesk();
        Desks.tellTheWill(x);
        x.debt(40, Desks.MOST_CENTS, 0);
        x.settle();
        return x;
    }
}
