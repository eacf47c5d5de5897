/** Promises 16 to 23: the answers by the last settling, close and worth. */
public final class AnswersTest {
    public static void main(String[] args) {
        wrongNumbersAreRefused(new EstateDesk());
        wrongNumbersAreRefused(settled());
        numbersAtTheEdgesAreTaken();
        promise16Gets();
        promise17AssetTo();
        promise18ClauseState();
        promise19Told();
        promise20Paid();
        promise21Sum();
        promise22Close();
        promise23Worth();
        answersStayThoseOfTheLastSettling();
        Check.end();
    }

    /** Asset 1 goes to 1 with a debt, 2 and 3 share a fund, 4 has an annuity, 5 the residue; 6 is lapsed, 7 has failed. */
    private static EstateDesk settled() {
        EstateDesk x = new EstateDesk();
        x.testator(100);
        for (int clause = 1; clause <= 7; clause++) {
            x.taker(clause, 1, clause);
        }
        x.person(6, 100);
        x.asset(1, 1000, false);
        x.asset(2, 500, true);
        x.asset(3, 900, false);
        x.asset(4, 77, false);
        x.gift(1, 1);
        x.legacy(2, 400, 2);
        x.legacy(3, 200, 2);
        x.annuity(4, 100, 99);
        x.residue(5, 2);
        x.residue(6, 8);
        x.gift(7, 4);
        x.gone(4);
        x.debt(1, 300, 1);
        x.debt(2, 50, 0);
        x.settle();
        return x;
    }

    private static void wrongNumbersAreRefused(EstateDesk x) {
        Check.argument("gets: person -1", () -> x.gets(-1, 0));
        Check.argument("gets: person 41", () -> x.gets(41, 0));
        Check.argument("gets: what -1", () -> x.gets(0, -1));
        Check.argument("gets: what 3", () -> x.gets(0, 3));
        Check.argument("assetTo 0", () -> x.assetTo(0));
        Check.argument("assetTo 41", () -> x.assetTo(41));
        Check.argument("clauseState 0", () -> x.clauseState(0));
        Check.argument("clauseState 41", () -> x.clauseState(41));
        Check.argument("told: clause 0", () -> x.told(0, 0));
        Check.argument("told: clause 41", () -> x.told(41, 0));
        Check.argument("told: what -1", () -> x.told(1, -1));
        Check.argument("told: what 5", () -> x.told(1, 5));
        Check.argument("paid 0", () -> x.paid(0));
        Check.argument("paid 41", () -> x.paid(41));
        Check.argument("sum -1", () -> x.sum(-1));
        Check.argument("sum 8", () -> x.sum(8));
        Check.argument("sum far off", () -> x.sum(Integer.MIN_VALUE));
    }

    private static void numbersAtTheEdgesAreTaken() {
        EstateDesk x = settled();
        Check.due("gets: person 40", x.gets(40, 2), 0);
        Check.due("assetTo 40: no such asset", x.assetTo(40), EstateDesk.NONE);
        Check.due("clauseState 40: no such clause", x.clauseState(40), EstateDesk.NONE);
        Check.due("told: no such clause", x.told(40, 4), 0);
        Check.due("paid 40: no such debt", x.paid(40), 0);
    }

    private static void promise16Gets() {
        EstateDesk x = settled();
        long[][] due = {
            {0, 0, 0}, {1000, 0, 300}, {0, 400, 0}, {0, 200, 0}, {0, 96, 0}, {0, 654, 0}, {0, 0, 0}, {0, 0, 0},
        };
        for (int person = 0; person < due.length; person++) {
            for (int what = 0; what <= 2; what++) {
                Check.due("gets(" + person + ", " + what + ")", x.gets(person, what), due[person][what]);
            }
        }
        x.strike(5);
        x.settle();
        Check.due("gets: heirs at law", x.gets(0, 1), 654);
    }

    private static void promise17AssetTo() {
        EstateDesk x = settled();
        Check.due("assetTo: given", x.assetTo(1), 1);
        Check.due("assetTo: a fund", x.assetTo(2), EstateDesk.NONE);
        Check.due("assetTo: in the residue", x.assetTo(3), EstateDesk.NONE);
        Check.due("assetTo: gone", x.assetTo(4), EstateDesk.NONE);
        x.taker(1, 1, 6);
        x.settle();
        Check.due("assetTo: lapsed", x.assetTo(1), EstateDesk.NONE);
        x.taker(1, 4, 40);
        x.settle();
        Check.due("assetTo: who stands in", x.assetTo(1), 40);
    }

    private static void promise18ClauseState() {
        EstateDesk x = settled();
        int[] due = {-1, 0, 0, 0, 0, 0, 1, 2, -1};
        for (int clause = 1; clause < due.length; clause++) {
            Check.due("clauseState " + clause, x.clauseState(clause), due[clause]);
        }
        x.debt(2, 900, 0);
        x.settle();
        Check.due("clauseState: abated annuity", x.clauseState(4), 3);
        Check.due("clauseState: legacy abated in its general part", x.clauseState(3), 3);
        Check.due("clauseState: legacy all drawn", x.clauseState(2), 0);
        Check.due("clauseState: residue of nothing", x.clauseState(5), 0);
    }

    private static void promise19Told() {
        EstateDesk x = settled();
        x.debt(2, 1000, 0);
        x.settle();
        long[][] due = {
            {}, {700, 0, 0, 0, 1}, {400, 80, 400, 320, 2}, {200, 120, 100, 80, 3}, {96, 96, 0, 0, 4}, {0, 0, 0, 0, 5},
            {0, 0, 0, 0, 0}, {0, 0, 0, 0, 0}, {0, 0, 0, 0, 0},
        };
        for (int clause = 1; clause < due.length; clause++) {
            for (int what = 0; what <= 4; what++) {
                Check.due("told(" + clause + ", " + what + ")", x.told(clause, what), due[clause][what]);
            }
        }
        x.debt(2, 0, 0);
        x.settle();
        Check.due("told: cents of the residue", x.told(5, 3), 704);
        Check.due("told: value of the residue", x.told(5, 0), 0);
    }

    private static void promise20Paid() {
        EstateDesk x = settled();
        Check.due("paid: own", x.paid(1), 300);
        Check.due("paid: ordinary", x.paid(2), 50);
        Check.due("paid: none such", x.paid(3), 0);
        x.debt(3, 4150, 0);
        Check.due("paid: shortage", x.settle(), 4200 - 2100);
        Check.due("paid: own, in full", x.paid(1), 300);
        Check.due("paid: half", x.paid(2), 25);
        Check.due("paid: half", x.paid(3), 2075);
        x.debt(3, 1, 0);
        x.settle();
        Check.due("paid: anew", x.paid(3), 1);
    }

    private static void promise21Sum() {
        EstateDesk x = settled();
        long[] due = {2400, 350, 900, 50, 196, 500, 700, 654};
        for (int what = 0; what <= 7; what++) {
            Check.due("sum " + what, x.sum(what), due[what]);
        }
        x.debt(3, 4150, 0);
        x.settle();
        long[] dueShort = {2400, 2400, 900, 4200, 196, 500, 700, 0};
        for (int what = 0; what <= 7; what++) {
            Check.due("sum with a shortage " + what, x.sum(what), dueShort[what]);
        }
    }

    private static void promise22Close() {
        EstateDesk x = new EstateDesk();
        Check.state("close: nothing settled", x::close);
        x.testator(1);
        Check.state("close: not settled yet", x::close);
        x.settle();
        x.strike(1);
        Check.state("close: a fact behind the settling, be it one that changes nothing", x::close);
        x.settle();
        x.testator(1);
        Check.state("close: the same told anew", x::close);
        x.settle();
        x.sum(0);
        x.worth(1, 1);
        Check.passes("close: answers are no facts", x::close);
        Check.state("close: twice", x::close);
        Check.due("close: may be settled", x.settle(), 0);
        Check.state("close: closed for ever", x::close);
        Check.state("close: no facts", () -> x.person(1, 1));
        Check.due("close: answers", x.sum(0), 0);
        EstateDesk y = settled();
        Check.state("close refused", () -> closeBehindAFact(y));
        Check.passes("close: a refused one closes nothing", () -> y.debt(3, 1, 0));
        everyFactOpensTheAccount();
    }

    private static void closeBehindAFact(EstateDesk x) {
        x.debt(3, 1, 0);
        x.close();
    }

    private static void everyFactOpensTheAccount() {
        EstateDesk x = settled();
        Check.Call[] facts = {
            () -> x.testator(100), () -> x.person(9, 0), () -> x.asset(9, 0, true), () -> x.revalue(9, 0), () -> x.gone(9),
            () -> x.gift(9, 9), () -> x.charge(9, true), () -> x.legacy(9, 0, 0), () -> x.annuity(9, 0, 0),
            () -> x.residue(9, 1), () -> x.strike(9), () -> x.taker(9, 1, 0), () -> x.debt(9, 0, 0),
        };
        for (int fact = 0; fact < facts.length; fact++) {
            x.settle();
            facts[fact].make();
            Check.state("close behind fact " + fact, x::close);
        }
    }

    private static void promise23Worth() {
        EstateDesk x = new EstateDesk();
        Check.due("worth of nothing", x.worth(0, 0), 0);
        Check.due("worth: one year", x.worth(100, 99), 96);
        Check.due("worth: rounded down", x.worth(1, 99), 0);
        Check.due("worth: two years, 960000 and 921600", x.worth(1000000, 98), 1881600);
        Check.due("worth: three years, and 884736", x.worth(1000000, 97), 2766336);
        Check.due("worth: four years, and 849346 rounded down", x.worth(1000000, 96), 3615682);
        Check.due("worth: ten years", x.worth(100, 90), 804);
        Check.due("worth: the greatest", x.worth(1000000000L, 0), 23594306000L);
        Check.argument("worth: -1 cents", () -> x.worth(-1, 0));
        Check.argument("worth: too many cents", () -> x.worth(1000000001L, 0));
        Check.argument("worth: age -1", () -> x.worth(1, -1));
        Check.argument("worth: age 100", () -> x.worth(1, 100));
        EstateDesk y = settled();
        y.close();
        Check.due("worth: of a closed account", y.worth(100, 99), 96);
    }

    private static void answersStayThoseOfTheLastSettling() {
        EstateDesk x = settled();
        x.gift(8, 3);
        x.taker(8, 1, 8);
        x.taker(1, 1, 9);
        x.revalue(1, 5);
        x.legacy(2, 1, 0);
        x.strike(3);
        x.residue(4, 7);
        x.debt(1, 9, 0);
        x.debt(3, 9, 0);
        x.person(5, 1);
        x.gone(2);
        x.testator(100000);
        Check.due("last: clauseState", x.clauseState(8), EstateDesk.NONE);
        Check.due("last: struck", x.clauseState(3), 0);
        Check.due("last: struck, value", x.told(3, 0), 200);
        Check.due("last: struck, drawn", x.told(3, 2), 100);
        Check.due("last: value", x.told(1, 0), 700);
        Check.due("last: value", x.told(2, 0), 400);
        Check.due("last: value", x.told(4, 0), 96);
        Check.due("last: taker", x.told(1, 4), 1);
        Check.due("last: asset to", x.assetTo(1), 1);
        Check.due("last: asset to nobody", x.assetTo(3), EstateDesk.NONE);
        Check.due("last: gets", x.gets(1, 0), 1000);
        Check.due("last: gets", x.gets(5, 1), 654);
        Check.due("last: paid", x.paid(1), 300);
        Check.due("last: not paid", x.paid(3), 0);
        Check.due("last: sum", x.sum(0), 2400);
    }
}
