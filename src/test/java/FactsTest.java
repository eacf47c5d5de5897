/** Promises 1 to 14: a new object, and each call that tells a fact. */
public final class FactsTest {
    private static final long MOST_CENTS = 1000000000000L;

    public static void main(String[] args) {
        promise1NewObject();
        promise2Testator();
        promise3Person();
        promise4Asset();
        promise5Revalue();
        promise6Gone();
        promise7Gift();
        promise8Legacy();
        promise9Annuity();
        promise10Residue();
        promise11Strike();
        promise12Taker();
        promise13Charge();
        promise14Debt();
        closedAccountRefusesFacts();
        throwingCallsAreNoFacts();
        Check.end();
    }

    private static void promise1NewObject() {
        EstateDesk x = new EstateDesk();
        Check.state("new: settle", x::settle);
        Check.state("new: gets", () -> x.gets(0, 0));
        Check.state("new: assetTo", () -> x.assetTo(1));
        Check.state("new: clauseState", () -> x.clauseState(1));
        Check.state("new: told", () -> x.told(1, 0));
        Check.state("new: paid", () -> x.paid(1));
        Check.state("new: sum", () -> x.sum(0));
        Check.state("new: close", x::close);
        Check.argument("new: no asset to revalue", () -> x.revalue(1, 1));
        Check.argument("new: no clause to charge", () -> x.charge(1, true));
        x.testator(100000);
        Check.due("new: settle", x.settle(), 0);
        for (int what = 0; what <= 7; what++) {
            Check.due("new: sum " + what, x.sum(what), 0);
        }
        Check.due("new: clauseState", x.clauseState(40), EstateDesk.NONE);
        Check.due("new: assetTo", x.assetTo(40), EstateDesk.NONE);
        Check.due("new: paid", x.paid(40), 0);
        x.residue(1, 1);
        x.taker(1, 1, 40);
        x.settle();
        Check.due("new: person 40 is living", x.told(1, 4), 40);
    }

    private static void promise2Testator() {
        EstateDesk x = willOfOneLegacy();
        x.person(1, 100);
        x.testator(99);
        x.settle();
        Check.due("testator: died before the person", x.told(1, 4), 1);
        x.testator(100);
        x.settle();
        Check.due("testator: told anew, the same day", x.clauseState(1), 1);
        Check.passes("testator: first day", () -> x.testator(1));
        Check.passes("testator: last day", () -> x.testator(100000));
        Check.argument("testator: day 0", () -> x.testator(0));
        Check.argument("testator: day -1", () -> x.testator(-1));
        Check.argument("testator: day 100001", () -> x.testator(100001));
        x.person(1, 99999);
        x.settle();
        Check.due("testator: a wrong day changes nothing", x.clauseState(1), 1);
        EstateDesk y = new EstateDesk();
        Check.argument("testator: wrong", () -> y.testator(100001));
        Check.state("testator: a wrong day was not told", y::settle);
    }

    private static void promise3Person() {
        EstateDesk x = willOfOneLegacy();
        x.testator(50);
        x.person(1, 51);
        x.settle();
        Check.due("person: died later", x.told(1, 4), 1);
        x.person(1, 50);
        x.settle();
        Check.due("person: died on that day", x.clauseState(1), 1);
        x.person(1, 1);
        x.settle();
        Check.due("person: died before", x.clauseState(1), 1);
        x.person(1, 0);
        x.settle();
        Check.due("person: is living after all", x.told(1, 4), 1);
        Check.passes("person 40, last day", () -> x.person(40, 100000));
        Check.argument("person 0", () -> x.person(0, 5));
        Check.argument("person 41", () -> x.person(41, 5));
        Check.argument("person -1", () -> x.person(-1, 5));
        Check.argument("person: day -1", () -> x.person(1, -1));
        Check.argument("person: day 100001", () -> x.person(1, 100001));
        x.settle();
        Check.due("person: wrong calls change nothing", x.told(1, 4), 1);
    }

    private static void promise4Asset() {
        EstateDesk x = new EstateDesk();
        x.testator(1);
        x.asset(1, 0, false);
        x.asset(40, MOST_CENTS, true);
        x.settle();
        Check.due("asset: sum", x.sum(0), MOST_CENTS);
        Check.argument("asset 0", () -> x.asset(0, 1, true));
        Check.argument("asset 41", () -> x.asset(41, 1, true));
        Check.argument("asset: -1 cents", () -> x.asset(2, -1, true));
        Check.argument("asset: too many cents", () -> x.asset(2, MOST_CENTS + 1, true));
        Check.argument("asset: wrong cents win over a second one", () -> x.asset(1, -1, true));
        Check.state("asset: a second one", () -> x.asset(1, 5, true));
        Check.argument("asset: the second one did not make it a fund", () -> x.legacy(1, 5, 1));
        x.gone(1);
        Check.state("asset: a gone one keeps its number", () -> x.asset(1, 5, true));
        x.settle();
        Check.due("asset: wrong calls change nothing", x.sum(0), MOST_CENTS);
        Check.argument("asset: wrong calls make none", () -> x.revalue(2, 1));
    }

    private static void promise5Revalue() {
        EstateDesk x = new EstateDesk();
        x.testator(1);
        x.asset(3, 70, true);
        Check.due("revalue", x.revalue(3, 0), 70);
        Check.due("revalue", x.revalue(3, MOST_CENTS), 0);
        Check.argument("revalue: no such asset", () -> x.revalue(4, 1));
        Check.argument("revalue 0", () -> x.revalue(0, 1));
        Check.argument("revalue 41", () -> x.revalue(41, 1));
        Check.argument("revalue: -1 cents", () -> x.revalue(3, -1));
        Check.argument("revalue: too many cents", () -> x.revalue(3, MOST_CENTS + 1));
        x.settle();
        Check.due("revalue: sum", x.sum(0), MOST_CENTS);
        x.gone(3);
        Check.due("revalue: a gone one", x.revalue(3, 9), MOST_CENTS);
        x.settle();
        Check.due("revalue: stays gone", x.sum(0), 0);
        Check.passes("revalue: stays a fund", () -> x.legacy(1, 1, 3));
    }

    private static void promise6Gone() {
        EstateDesk x = new EstateDesk();
        x.testator(1);
        x.asset(1, 10, false);
        x.asset(2, 20, false);
        Check.argument("gone: no such asset", () -> x.gone(3));
        Check.argument("gone 0", () -> x.gone(0));
        Check.argument("gone 41", () -> x.gone(41));
        x.settle();
        Check.due("gone: none yet", x.sum(0), 30);
        x.gone(2);
        x.settle();
        Check.due("gone: the sum", x.sum(0), 10);
        Check.due("gone: T", x.sum(2), 10);
        Check.passes("gone twice", () -> x.gone(2));
        Check.passes("gone: may be given", () -> x.gift(1, 2));
        Check.passes("gone: may be charged", () -> x.debt(1, 4, 2));
    }

    private static void promise7Gift() {
        EstateDesk x = new EstateDesk();
        x.testator(1);
        x.asset(1, 100, true);
        x.asset(2, 50, true);
        Check.argument("gift: clause 0", () -> x.gift(0, 1));
        Check.argument("gift: clause 41", () -> x.gift(41, 1));
        Check.argument("gift: asset 0", () -> x.gift(1, 0));
        Check.argument("gift: asset 41", () -> x.gift(1, 41));
        Check.argument("gift: no such asset", () -> x.gift(1, 3));
        x.legacy(1, 30, 1);
        x.taker(1, 2, 9);
        Check.state("gift: in another's legacy", () -> x.gift(2, 1));
        Check.passes("gift: in its own legacy", () -> x.gift(1, 1));
        Check.state("gift: in another's gift", () -> x.gift(2, 1));
        Check.argument("gift: wrong clause wins", () -> x.gift(41, 1));
        x.debt(1, 60, 1);
        x.charge(1, false);
        x.gift(1, 1);
        x.settle();
        Check.due("gift: the ranks stay", x.assetTo(1), 9);
        Check.due("gift: written anew, the debts stay with it", x.told(1, 0), 40);
        x.gift(1, 2);
        Check.passes("gift: what it had before is free", () -> x.gift(2, 1));
        x.settle();
        Check.due("gift: another asset", x.assetTo(2), 9);
        Check.due("gift: clause 2 names nobody", x.clauseState(2), 1);
        x.strike(2);
        Check.passes("gift: what was struck is free", () -> x.gift(40, 1));
        x.annuity(40, 1, 1);
        Check.passes("gift: what became an annuity is free", () -> x.gift(39, 1));
        x.residue(39, 1);
        Check.passes("gift: what became a residue share is free", () -> x.gift(38, 1));
        x.legacy(38, 1, 0);
        Check.passes("gift: what became a legacy of the whole is free", () -> x.gift(37, 1));
    }

    private static void promise8Legacy() {
        EstateDesk x = new EstateDesk();
        x.testator(1);
        x.asset(1, 100, true);
        x.asset(2, 50, false);
        Check.argument("legacy: clause 0", () -> x.legacy(0, 1, 0));
        Check.argument("legacy: clause 41", () -> x.legacy(41, 1, 0));
        Check.argument("legacy: -1 cents", () -> x.legacy(1, -1, 0));
        Check.argument("legacy: too many cents", () -> x.legacy(1, MOST_CENTS + 1, 0));
        Check.argument("legacy: no such asset", () -> x.legacy(1, 1, 3));
        Check.argument("legacy: asset 41", () -> x.legacy(1, 1, 41));
        Check.argument("legacy: asset -1", () -> x.legacy(1, 1, -1));
        Check.argument("legacy: no fund", () -> x.legacy(1, 1, 2));
        x.gift(3, 1);
        Check.state("legacy: in another's gift", () -> x.legacy(1, 1, 1));
        Check.argument("legacy: wrong cents win", () -> x.legacy(1, -1, 1));
        x.gift(4, 2);
        Check.argument("legacy: no fund wins over a gift", () -> x.legacy(1, 1, 2));
        Check.passes("legacy: in its own gift", () -> x.legacy(3, 70, 1));
        Check.passes("legacy: a fund may be in two", () -> x.legacy(1, 60, 1));
        Check.passes("legacy: of the whole, beside others", () -> x.legacy(2, MOST_CENTS, 0));
        x.taker(1, 1, 1);
        x.taker(3, 4, 3);
        x.settle();
        Check.due("legacy: a refused one was none", x.clauseState(2), 1);
        Check.due("legacy 1: drawn", x.told(1, 2), 60);
        Check.due("legacy 3: drawn", x.told(3, 2), 40);
        Check.due("legacy 3: value", x.told(3, 0), 70);
        x.legacy(3, 5, 0);
        x.settle();
        Check.due("legacy: written anew, the ranks stay", x.told(3, 4), 3);
        Check.due("legacy: of the whole, nothing drawn", x.told(3, 2), 0);
        Check.due("legacy: of the whole, its value", x.told(3, 0), 5);
    }

    private static void promise9Annuity() {
        EstateDesk x = willOfOneLegacy();
        x.testator(1);
        x.annuity(1, 100, 90);
        x.settle();
        Check.due("annuity: value", x.told(1, 0), 804);
        Check.due("annuity: G", x.sum(4), 804);
        Check.due("annuity: the ranks stay", x.told(1, 4), 1);
        Check.argument("annuity: clause 0", () -> x.annuity(0, 1, 1));
        Check.argument("annuity: clause 41", () -> x.annuity(41, 1, 1));
        Check.argument("annuity: -1 cents", () -> x.annuity(1, -1, 1));
        Check.argument("annuity: too many cents", () -> x.annuity(1, 1000000001L, 1));
        Check.argument("annuity: age -1", () -> x.annuity(1, 1, -1));
        Check.argument("annuity: age 100", () -> x.annuity(1, 1, 100));
        x.settle();
        Check.due("annuity: wrong calls change nothing", x.told(1, 0), 804);
        x.annuity(1, 1000000000L, 0);
        x.settle();
        Check.due("annuity: the greatest", x.told(1, 0), 23594306000L);
        x.annuity(1, 0, 99);
        x.settle();
        Check.due("annuity: of nothing", x.told(1, 0), 0);
        Check.argument("annuity: is no gift", () -> x.charge(1, true));
    }

    private static void promise10Residue() {
        EstateDesk x = willOfOneLegacy();
        x.testator(1);
        x.asset(1, 1001, false);
        x.residue(1, 1000);
        x.residue(2, 1);
        x.taker(2, 1, 2);
        x.settle();
        Check.due("residue: 1000 parts", x.told(1, 3), 1000);
        Check.due("residue: 1 part", x.told(2, 3), 1);
        Check.due("residue: no value", x.told(1, 0), 0);
        Check.argument("residue: clause 0", () -> x.residue(0, 1));
        Check.argument("residue: clause 41", () -> x.residue(41, 1));
        Check.argument("residue: 0 parts", () -> x.residue(1, 0));
        Check.argument("residue: 1001 parts", () -> x.residue(1, 1001));
        x.settle();
        Check.due("residue: wrong calls change nothing", x.told(1, 3), 1000);
        x.residue(1, 1);
        x.settle();
        Check.due("residue: told anew", x.told(1, 3), 501);
    }

    private static void promise11Strike() {
        EstateDesk x = willOfOneLegacy();
        x.testator(1);
        Check.argument("strike 0", () -> x.strike(0));
        Check.argument("strike 41", () -> x.strike(41));
        x.settle();
        Check.due("strike: wrong calls change nothing", x.clauseState(1), 3);
        x.strike(1);
        x.settle();
        Check.due("strike: none any more", x.clauseState(1), EstateDesk.NONE);
        Check.due("strike: no taker told", x.told(1, 4), 0);
        Check.due("strike: G", x.sum(4), 0);
        Check.passes("strike: what is none", () -> x.strike(1));
        x.legacy(1, 5, 0);
        x.settle();
        Check.due("strike: the ranks stay", x.told(1, 4), 1);
        x.asset(7, 5, false);
        x.gift(2, 7);
        x.charge(2, false);
        x.strike(2);
        Check.argument("strike: no gift any more", () -> x.charge(2, true));
    }

    private static void promise12Taker() {
        EstateDesk x = new EstateDesk();
        x.testator(10);
        x.taker(40, 4, 40);
        x.taker(40, 2, 2);
        x.taker(40, 3, 3);
        x.person(2, 10);
        x.residue(40, 1);
        x.settle();
        Check.due("taker: told before the clause, the least rank who outlived", x.told(40, 4), 3);
        x.taker(40, 3, 0);
        x.settle();
        Check.due("taker: nobody at rank 3", x.told(40, 4), 40);
        x.taker(40, 1, 1);
        x.settle();
        Check.due("taker: rank 1", x.told(40, 4), 1);
        x.taker(40, 1, 5);
        x.settle();
        Check.due("taker: another at rank 1", x.told(40, 4), 5);
        Check.argument("taker: clause 0", () -> x.taker(0, 1, 1));
        Check.argument("taker: clause 41", () -> x.taker(41, 1, 1));
        Check.argument("taker: rank 0", () -> x.taker(40, 0, 1));
        Check.argument("taker: rank 5", () -> x.taker(40, 5, 1));
        Check.argument("taker: person -1", () -> x.taker(40, 1, -1));
        Check.argument("taker: person 41", () -> x.taker(40, 1, 41));
        x.settle();
        Check.due("taker: wrong calls change nothing", x.told(40, 4), 5);
        x.taker(40, 1, 0);
        x.taker(40, 4, 0);
        x.settle();
        Check.due("taker: all dead or nobody", x.clauseState(40), 1);
    }

    private static void promise13Charge() {
        EstateDesk x = willOfOneLegacy();
        x.testator(1);
        x.asset(1, 100, false);
        x.gift(2, 1);
        x.taker(2, 1, 2);
        x.debt(1, 30, 1);
        x.settle();
        Check.due("charge: at first they stay", x.told(2, 0), 70);
        x.charge(2, false);
        x.settle();
        Check.due("charge: not any more", x.told(2, 0), 100);
        Check.due("charge: D", x.sum(3), 30);
        x.charge(2, true);
        x.settle();
        Check.due("charge: again", x.told(2, 0), 70);
        Check.argument("charge: clause 0", () -> x.charge(0, false));
        Check.argument("charge: clause 41", () -> x.charge(41, false));
        Check.argument("charge: a legacy", () -> x.charge(1, false));
        Check.argument("charge: no clause", () -> x.charge(3, false));
        x.settle();
        Check.due("charge: wrong calls change nothing", x.told(2, 0), 70);
        x.person(2, 1);
        Check.passes("charge: a gift that will lapse", () -> x.charge(2, false));
        x.settle();
        Check.due("charge: it is lapsed", x.clauseState(2), 1);
        x.person(2, 0);
        x.settle();
        Check.due("charge: told of it all the same", x.told(2, 0), 100);
        x.asset(3, 50, false);
        x.gift(3, 3);
        x.gone(3);
        Check.passes("charge: a gift that will fail", () -> x.charge(3, false));
        x.charge(3, true);
        x.settle();
        Check.due("charge: each gift for itself", x.told(2, 0), 100);
        x.legacy(2, 7, 0);
        Check.argument("charge: no gift any more", () -> x.charge(2, false));
    }

    private static void promise14Debt() {
        EstateDesk x = new EstateDesk();
        x.testator(1);
        x.asset(1, 100, false);
        x.debt(40, 30, 0);
        x.debt(1, 20, 1);
        x.settle();
        Check.due("debt: D", x.sum(3), 50);
        x.debt(1, 5, 0);
        x.settle();
        Check.due("debt: in place of the one before", x.sum(3), 35);
        Check.argument("debt 0", () -> x.debt(0, 1, 0));
        Check.argument("debt 41", () -> x.debt(41, 1, 0));
        Check.argument("debt: -1 cents", () -> x.debt(1, -1, 0));
        Check.argument("debt: too many cents", () -> x.debt(1, MOST_CENTS + 1, 0));
        Check.argument("debt: no such asset", () -> x.debt(1, 1, 2));
        Check.argument("debt: asset 41", () -> x.debt(1, 1, 41));
        Check.argument("debt: asset -1", () -> x.debt(1, 1, -1));
        x.settle();
        Check.due("debt: wrong calls change nothing", x.sum(3), 35);
        x.debt(1, 0, 1);
        x.settle();
        Check.due("debt: of nothing", x.sum(3), 30);
        Check.due("debt: of nothing, paid", x.paid(1), 0);
        x.gone(1);
        Check.passes("debt: on what is gone", () -> x.debt(1, 5, 1));
        Check.due("debt: on what is gone", x.settle(), 35);
        x.asset(40, 100, false);
        x.debt(40, 30, 40);
        x.debt(1, MOST_CENTS, 40);
        Check.due("debt: the greatest", x.settle(), MOST_CENTS + 30 - 100);
    }

    private static void closedAccountRefusesFacts() {
        EstateDesk x = willOfOneLegacy();
        x.testator(1);
        x.asset(1, 100, true);
        x.gift(2, 1);
        x.settle();
        x.close();
        Check.state("closed: testator", () -> x.testator(1));
        Check.state("closed: person", () -> x.person(1, 1));
        Check.state("closed: asset", () -> x.asset(2, 1, true));
        Check.state("closed: revalue", () -> x.revalue(1, 1));
        Check.state("closed: gone", () -> x.gone(1));
        Check.state("closed: gift", () -> x.gift(2, 1));
        Check.state("closed: legacy", () -> x.legacy(1, 1, 0));
        Check.state("closed: annuity", () -> x.annuity(1, 1, 1));
        Check.state("closed: residue", () -> x.residue(1, 1));
        Check.state("closed: strike", () -> x.strike(1));
        Check.state("closed: taker", () -> x.taker(1, 1, 0));
        Check.state("closed: charge", () -> x.charge(2, false));
        Check.state("closed: debt", () -> x.debt(1, 1, 0));
        Check.argument("closed, wrong: testator", () -> x.testator(0));
        Check.argument("closed, wrong: person", () -> x.person(0, 1));
        Check.argument("closed, wrong: asset", () -> x.asset(0, 1, true));
        Check.argument("closed, wrong: revalue", () -> x.revalue(2, 1));
        Check.argument("closed, wrong: gone", () -> x.gone(2));
        Check.argument("closed, wrong: gift", () -> x.gift(2, 2));
        Check.argument("closed, wrong: legacy", () -> x.legacy(1, 1, 2));
        Check.argument("closed, wrong: annuity", () -> x.annuity(1, 1, 100));
        Check.argument("closed, wrong: residue", () -> x.residue(1, 0));
        Check.argument("closed, wrong: strike", () -> x.strike(0));
        Check.argument("closed, wrong: taker", () -> x.taker(1, 0, 0));
        Check.argument("closed, wrong: charge", () -> x.charge(1, false));
        Check.argument("closed, wrong: debt", () -> x.debt(1, 1, 2));
        Check.due("closed: the same comes of it", x.settle(), 0);
        Check.due("closed: sum of assets", x.sum(0), 100);
        Check.due("closed: D", x.sum(3), 0);
        Check.due("closed: G", x.sum(4), 30);
        Check.due("closed: taker", x.told(1, 4), 1);
        Check.due("closed: clause 2", x.clauseState(2), 1);
    }

    private static void throwingCallsAreNoFacts() {
        EstateDesk x = willOfOneLegacy();
        x.testator(1);
        x.asset(1, 1, false);
        x.settle();
        Check.argument("no fact: testator", () -> x.testator(0));
        Check.state("no fact: asset", () -> x.asset(1, 1, false));
        Check.argument("no fact: charge", () -> x.charge(1, false));
        Check.argument("no fact: debt", () -> x.debt(1, 1, 9));
        Check.passes("no fact came behind the settling", x::close);
    }

    private static EstateDesk willOfOneLegacy() {
        EstateDesk x = new EstateDesk();
        x.legacy(1, 30, 0);
        x.taker(1, 1, 1);
        return x;
    }
}
