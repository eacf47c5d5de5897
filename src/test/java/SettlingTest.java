/** Promise 15, paragraph by paragraph of SETTLING, and SPLIT. */
public final class SettlingTest {
    private static final long MOST_CENTS = 1000000000000L;

    public static void main(String[] args) {
        lapsedComesBeforeFailed();
        lapsedGiftFallsIntoTheWhole();
        ownDebtsUpToTheValue();
        ownDebtsOnlyOfAGoodGiftThatLetsThemStay();
        fundsGiveByRisingNumbers();
        lapsedLegacyDrawsNothing();
        goneFundGivesNothing();
        debtsOnAFundAreOrdinary();
        residueTakesWhatIsLeft();
        heirsAtLawTakeWhatNobodyElseDoes();
        generalPartsBearFirst();
        drawnPartsBearNext();
        giftsBearLast();
        nothingIsLeftAtTheEdgeOfAShortage();
        shortage();
        shortageLeavesOwnDebtsPaid();
        splitOfEqualRests();
        splitByGreatestRest();
        splitOfGreatNumbers();
        splitOfWeightsThatAreNothing();
        takerOfSeveralClauses();
        settlingIsDoneAnew();
        settlingForgetsTheOneBefore();
        lastNumbersCount();
        Check.end();
    }

    private static EstateDesk desk() {
        EstateDesk x = new EstateDesk();
        x.testator(100);
        x.person(40, 100);
        for (int clause = 1; clause <= 9; clause++) {
            x.taker(clause, 1, clause);
        }
        return x;
    }

    private static void lapsedComesBeforeFailed() {
        EstateDesk x = desk();
        x.asset(1, 10, false);
        x.gone(1);
        x.gift(1, 1);
        x.settle();
        Check.due("gift of what is gone", x.clauseState(1), 2);
        Check.due("failed: no taker told", x.told(1, 4), 0);
        Check.due("failed: nobody gets it", x.assetTo(1), EstateDesk.NONE);
        Check.due("failed: T", x.sum(2), 0);
        x.taker(1, 1, 40);
        x.settle();
        Check.due("gift of what is gone to the dead", x.clauseState(1), 1);
    }

    private static void lapsedGiftFallsIntoTheWhole() {
        EstateDesk x = desk();
        x.asset(1, 10, false);
        x.gift(1, 1);
        x.taker(1, 1, 40);
        x.debt(1, 4, 1);
        x.settle();
        Check.due("lapsed gift: T", x.sum(2), 10);
        Check.due("lapsed gift: its debts are ordinary", x.sum(3), 4);
        Check.due("lapsed gift: S", x.sum(6), 0);
        Check.due("lapsed gift: heirs at law", x.gets(0, 1), 6);
    }

    private static void ownDebtsUpToTheValue() {
        EstateDesk x = desk();
        x.asset(1, 100, false);
        x.asset(2, 1000, false);
        x.gift(1, 1);
        x.debt(9, 5, 1);
        x.debt(3, 60, 1);
        x.debt(5, 40, 1);
        x.settle();
        Check.due("own debts just up to the value, then ordinary", x.sum(3), 5);
        Check.due("nothing is left of the gift", x.told(1, 0), 0);
        Check.due("still good", x.clauseState(1), 0);
        Check.due("owes its own debts", x.gets(1, 2), 100);
        Check.due("gets the asset", x.gets(1, 0), 100);
        x.debt(5, 41, 1);
        x.settle();
        Check.due("the part above the value and all further ones", x.sum(3), 6);
        Check.due("owes only up to the value", x.gets(1, 2), 100);
        Check.due("all of it is paid", x.paid(5), 41);
        x.debt(5, 39, 1);
        x.settle();
        Check.due("a debt further on may be cut", x.sum(3), 4);
        x.debt(9, 5, 2);
        x.settle();
        Check.due("a debt on another asset", x.sum(3), 5);
        Check.due("one cent is left of the gift", x.told(1, 0), 1);
    }

    private static void ownDebtsOnlyOfAGoodGiftThatLetsThemStay() {
        EstateDesk x = desk();
        x.asset(1, 100, false);
        x.asset(2, 500, false);
        x.gift(1, 1);
        x.debt(1, 30, 1);
        x.charge(1, false);
        x.settle();
        Check.due("do not stay: S", x.sum(6), 100);
        Check.due("do not stay: D", x.sum(3), 30);
        Check.due("do not stay: owes nothing", x.gets(1, 2), 0);
        x.charge(1, true);
        x.gone(1);
        x.settle();
        Check.due("failed: the debt is ordinary", x.sum(3), 30);
    }

    private static void fundsGiveByRisingNumbers() {
        EstateDesk x = desk();
        x.asset(7, 100, true);
        x.legacy(3, 50, 7);
        x.legacy(1, 70, 7);
        x.legacy(2, 0, 7);
        x.legacy(4, 5, 7);
        x.settle();
        Check.due("first in number", x.told(1, 2), 70);
        Check.due("of nothing", x.told(2, 2), 0);
        Check.due("what is left", x.told(3, 2), 30);
        Check.due("nothing is left", x.told(4, 2), 0);
        Check.due("N", x.sum(5), 100);
        Check.due("G", x.sum(4), 25);
        Check.due("T", x.sum(2), 0);
        Check.due("general parts bear", x.told(3, 1), 20);
        Check.due("general parts bear", x.told(4, 1), 5);
        Check.due("gets the drawn part", x.told(3, 3), 30);
        Check.due("of nothing is good", x.clauseState(2), 0);
    }

    private static void lapsedLegacyDrawsNothing() {
        EstateDesk x = desk();
        x.asset(1, 100, true);
        x.legacy(1, 90, 1);
        x.taker(1, 1, 40);
        x.legacy(2, 90, 1);
        x.settle();
        Check.due("the next one draws all", x.told(2, 2), 90);
        Check.due("lapsed: no drawn part", x.told(1, 2), 0);
        Check.due("lapsed: N", x.sum(5), 90);
    }

    private static void goneFundGivesNothing() {
        EstateDesk x = desk();
        x.asset(1, 100, true);
        x.asset(2, 200, false);
        x.legacy(1, 90, 1);
        x.gone(1);
        x.settle();
        Check.due("gone fund: good", x.clauseState(1), 0);
        Check.due("gone fund: drawn", x.told(1, 2), 0);
        Check.due("gone fund: general", x.sum(4), 90);
        Check.due("gone fund: gets", x.told(1, 3), 90);
    }

    private static void debtsOnAFundAreOrdinary() {
        EstateDesk x = desk();
        x.asset(1, 100, true);
        x.legacy(1, 90, 1);
        x.debt(1, 30, 1);
        x.settle();
        Check.due("debt on a fund: D", x.sum(3), 30);
        Check.due("debt on a fund: T", x.sum(2), 10);
        Check.due("debt on a fund: bears", x.told(1, 1), 20);
    }

    private static void residueTakesWhatIsLeft() {
        EstateDesk x = desk();
        x.asset(1, 100, false);
        x.legacy(1, 30, 0);
        x.debt(1, 20, 0);
        x.residue(2, 3);
        x.residue(3, 2);
        x.residue(4, 995);
        x.taker(4, 1, 40);
        x.settle();
        Check.due("residue", x.sum(7), 50);
        Check.due("3 parts of 5", x.told(2, 3), 30);
        Check.due("2 parts of 5", x.told(3, 3), 20);
        Check.due("lapsed gets none", x.told(4, 3), 0);
        Check.due("nothing for the heirs", x.gets(0, 1), 0);
        x.debt(1, 70, 0);
        x.settle();
        Check.due("residue of nothing", x.sum(7), 0);
        Check.due("residue of nothing is good", x.clauseState(2), 0);
        Check.due("residue of nothing gets nothing", x.gets(2, 1), 0);
    }

    private static void heirsAtLawTakeWhatNobodyElseDoes() {
        EstateDesk x = desk();
        x.asset(1, 100, false);
        x.residue(4, 1);
        x.taker(4, 1, 40);
        x.settle();
        Check.due("heirs: cents", x.gets(0, 1), 100);
        Check.due("heirs: assets", x.gets(0, 0), 0);
        Check.due("heirs: assetTo", x.assetTo(1), EstateDesk.NONE);
        Check.due("heirs: residue", x.sum(7), 100);
    }

    private static EstateDesk deskOfAllClasses() {
        EstateDesk x = desk();
        x.asset(1, 300, false);
        x.gift(1, 1);
        x.asset(2, 100, false);
        x.gift(2, 2);
        x.asset(3, 150, true);
        x.legacy(3, 100, 3);
        x.legacy(4, 80, 3);
        x.asset(4, 200, false);
        x.legacy(5, 120, 0);
        x.residue(6, 1);
        return x;
    }

    private static void generalPartsBearFirst() {
        EstateDesk x = deskOfAllClasses();
        x.debt(1, 50, 0);
        x.settle();
        Check.due("T - D is G: nobody bears", x.clauseState(5), 0);
        Check.due("T - D is G: no residue", x.sum(7), 0);
        x.debt(1, 51, 0);
        x.settle();
        Check.due("one cent: the greatest rest bears it", x.told(5, 1), 1);
        Check.due("one cent: abated", x.clauseState(5), 3);
        Check.due("one cent: the other is good", x.clauseState(4), 0);
        x.debt(1, 200, 0);
        x.settle();
        Check.due("D is T: the whole bears", x.told(5, 1), 120);
        Check.due("D is T: the general part bears", x.told(4, 1), 30);
        Check.due("D is T: the drawn part does not", x.told(4, 3), 50);
        Check.due("D is T: drawn is good", x.clauseState(3), 0);
        Check.due("D is T: residue is good", x.clauseState(6), 0);
    }

    private static void drawnPartsBearNext() {
        EstateDesk x = deskOfAllClasses();
        x.debt(1, 203, 0);
        x.settle();
        Check.due("3 above T: 2 of 3", x.told(3, 1), 2);
        Check.due("3 above T: 1 of 3, and its general part", x.told(4, 1), 31);
        Check.due("3 above T: gets", x.told(3, 3), 98);
        Check.due("3 above T: gifts are good", x.clauseState(1), 0);
        x.debt(1, 350, 0);
        x.settle();
        Check.due("all of N", x.told(3, 1), 100);
        Check.due("all of N", x.told(4, 1), 80);
        Check.due("all of N: gets nothing", x.gets(4, 1), 0);
        Check.due("all of N: gifts are good", x.clauseState(1), 0);
    }

    private static void giftsBearLast() {
        EstateDesk x = deskOfAllClasses();
        x.debt(1, 354, 0);
        x.settle();
        Check.due("4 above T + N: 3 of 4", x.told(1, 1), 3);
        Check.due("4 above T + N: 1 of 4", x.told(2, 1), 1);
        Check.due("abated", x.clauseState(1), 3);
        Check.due("still gets the asset", x.assetTo(1), 1);
        Check.due("owes what the gift bears", x.gets(1, 2), 3);
        x.debt(2, 40, 2);
        x.settle();
        Check.due("own debts and what it bears", x.gets(2, 2), 41);
        Check.due("by the values: 300 of 360", x.told(1, 1), 3);
        Check.due("by the values: 60 of 360", x.told(2, 1), 1);
        Check.due("no cents of a gift", x.told(2, 3), 0);
    }

    private static void nothingIsLeftAtTheEdgeOfAShortage() {
        EstateDesk x = deskOfAllClasses();
        x.debt(1, 750, 0);
        Check.due("D is T + N + S", x.settle(), 0);
        Check.due("still gets the asset", x.assetTo(2), 2);
        Check.due("owes all of it", x.gets(2, 2), 100);
        Check.due("residue is good", x.clauseState(6), 0);
        x.debt(1, 751, 0);
        Check.due("one cent above", x.settle(), 1);
        Check.due("nobody gets it", x.assetTo(2), EstateDesk.NONE);
        Check.due("residue is abated", x.clauseState(6), 3);
        Check.due("all but one cent is paid", x.paid(1), 750);
    }

    private static void shortage() {
        EstateDesk x = deskOfAllClasses();
        x.taker(5, 1, 40);
        x.legacy(7, 0, 0);
        x.debt(1, 1000, 0);
        x.debt(2, 500, 0);
        Check.due("shortage", x.settle(), 750);
        Check.due("paid 1", x.paid(1), 500);
        Check.due("paid 2", x.paid(2), 250);
        Check.due("paid in all", x.sum(1), 750);
        Check.due("no residue", x.sum(7), 0);
        Check.due("gift bears its value", x.told(1, 1), 300);
        Check.due("legacy bears both parts", x.told(4, 1), 80);
        Check.due("legacy: drawn part", x.told(4, 2), 50);
        Check.due("legacy: value", x.told(4, 0), 80);
        Check.due("legacy: gets nothing", x.told(4, 3), 0);
        Check.due("legacy: its taker", x.told(4, 4), 4);
        Check.due("lapsed stays lapsed", x.clauseState(5), 1);
        Check.due("lapsed bears nothing", x.told(5, 1), 0);
        Check.due("of nothing is abated", x.clauseState(7), 3);
        for (int what = 0; what <= 2; what++) {
            Check.due("nobody gets anything, " + what, x.gets(1, what), 0);
            Check.due("nobody gets anything, " + what, x.gets(4, what), 0);
            Check.due("nobody gets anything, " + what, x.gets(0, what), 0);
        }
    }

    private static void shortageLeavesOwnDebtsPaid() {
        EstateDesk x = desk();
        x.asset(1, 100, false);
        x.gift(1, 1);
        x.debt(1, 40, 1);
        x.debt(2, 70, 1);
        x.debt(3, 30, 0);
        Check.due("shortage of the ordinary ones", x.settle(), 40);
        Check.due("own", x.paid(1), 40);
        Check.due("own up to the value", x.paid(2), 60);
        Check.due("ordinary", x.paid(3), 0);
        Check.due("S", x.sum(6), 0);
        Check.due("D", x.sum(3), 40);
        Check.due("owes nothing, getting nothing", x.gets(1, 2), 0);
        x.asset(2, 3, false);
        Check.due("a little to share", x.settle(), 37);
        Check.due("3 * 10 / 40 is 0, rest 30", x.paid(2), 61);
        Check.due("3 * 30 / 40 is 2, rest 10", x.paid(3), 2);
        Check.due("paid in all", x.sum(1), 103);
    }

    private static void splitOfEqualRests() {
        EstateDesk x = desk();
        x.asset(1, 5, false);
        x.residue(3, 1);
        x.residue(8, 1);
        x.residue(5, 1);
        x.settle();
        Check.due("lesser number first", x.told(3, 3), 2);
        Check.due("lesser number next", x.told(5, 3), 2);
        Check.due("not enough", x.told(8, 3), 1);
    }

    private static void splitByGreatestRest() {
        EstateDesk x = desk();
        x.asset(1, 10, false);
        x.residue(1, 1);
        x.residue(2, 2);
        x.residue(3, 4);
        x.settle();
        Check.due("10 / 7, rest 3", x.told(1, 3), 1);
        Check.due("20 / 7, rest 6", x.told(2, 3), 3);
        Check.due("40 / 7, rest 5", x.told(3, 3), 6);
    }

    private static void splitOfGreatNumbers() {
        EstateDesk x = new EstateDesk();
        x.testator(1);
        for (int asset = 1; asset <= 40; asset++) {
            x.asset(asset, MOST_CENTS, false);
            x.debt(asset, MOST_CENTS, 0);
        }
        Check.due("all is owed", x.settle(), 0);
        Check.due("all is paid", x.sum(1), 40 * MOST_CENTS);
        x.revalue(1, MOST_CENTS - 3);
        x.debt(40, MOST_CENTS - 1, 0);
        Check.due("two cents are lacking", x.settle(), 2);
        Check.due("equal rests: the least number gets one more", x.paid(1), MOST_CENTS);
        Check.due("equal rests: just one more", x.paid(37), MOST_CENTS);
        Check.due("equal rests: no more", x.paid(38), MOST_CENTS - 1);
        Check.due("the greatest rest", x.paid(40), MOST_CENTS - 1);
        for (int asset = 3; asset <= 40; asset++) {
            x.gone(asset);
        }
        x.revalue(1, 123456789012L);
        x.revalue(2, 998877665544L);
        x.settle();
        Check.due("a weight of 10^12", x.paid(1), 28058361364L);
        Check.due("all of it is shared", x.sum(1), 1122334454556L);
    }

    private static void splitOfWeightsThatAreNothing() {
        EstateDesk x = desk();
        x.asset(1, 0, false);
        x.gift(1, 1);
        x.legacy(2, 0, 0);
        x.debt(1, 0, 0);
        Check.due("nothing at all", x.settle(), 0);
        Check.due("gift of nothing", x.clauseState(1), 0);
        Check.due("gift of nothing goes to", x.assetTo(1), 1);
        Check.due("legacy of nothing", x.clauseState(2), 0);
        x.debt(1, 1, 0);
        Check.due("a cent of debt", x.settle(), 1);
        Check.due("nothing to pay it", x.paid(1), 0);
        Check.due("abated all the same", x.clauseState(2), 3);
    }

    private static void takerOfSeveralClauses() {
        EstateDesk x = desk();
        x.asset(1, 100, false);
        x.asset(2, 60, false);
        x.asset(3, 500, true);
        x.gift(1, 1);
        x.gift(2, 2);
        x.legacy(3, 40, 3);
        x.annuity(4, 100, 99);
        x.residue(5, 1);
        for (int clause = 1; clause <= 5; clause++) {
            x.taker(clause, 1, 9);
        }
        x.debt(1, 11, 1);
        x.debt(2, 22, 2);
        x.debt(3, 7, 0);
        x.settle();
        Check.due("assets in all", x.gets(9, 0), 160);
        Check.due("cents in all", x.gets(9, 1), 40 + 96 + (460 - 96 - 7));
        Check.due("owes in all", x.gets(9, 2), 33);
    }

    private static void settlingIsDoneAnew() {
        EstateDesk x = deskOfAllClasses();
        x.debt(1, 5000, 0);
        x.settle();
        x.debt(1, 0, 0);
        for (int time = 1; time <= 2; time++) {
            Check.due("anew: no shortage", x.settle(), 0);
            Check.due("anew: paid", x.paid(1), 0);
            Check.due("anew: state", x.clauseState(1), 0);
            Check.due("anew: bears", x.told(4, 1), 0);
            Check.due("anew: gets", x.gets(4, 1), 80);
            Check.due("anew: residue", x.gets(6, 1), 50);
            Check.due("anew: asset", x.assetTo(1), 1);
            Check.due("anew: its value", x.gets(1, 0), 300);
        }
    }

    private static void settlingForgetsTheOneBefore() {
        EstateDesk x = deskOfAllClasses();
        x.debt(2, 10, 1);
        x.settle();
        Check.due("before: a share of the residue", x.told(6, 3), 50);
        for (int clause = 1; clause <= 6; clause++) {
            x.taker(clause, 1, 40);
        }
        x.settle();
        for (int clause = 1; clause <= 6; clause++) {
            for (int what = 0; what <= 4; what++) {
                Check.due("forgotten: told(" + clause + ", " + what + ")", x.told(clause, what), 0);
            }
        }
        Check.due("forgotten: T", x.sum(2), 750);
        Check.due("forgotten: D", x.sum(3), 10);
        Check.due("forgotten: G", x.sum(4), 0);
        Check.due("forgotten: N", x.sum(5), 0);
        Check.due("forgotten: S", x.sum(6), 0);
        Check.due("forgotten: heirs at law", x.gets(0, 1), 740);
        x.debt(1, 750, 0);
        x.settle();
        Check.due("forgotten: in a shortage too", x.told(3, 1), 0);
        Check.due("forgotten: heirs at law", x.gets(0, 1), 0);
    }

    private static void lastNumbersCount() {
        EstateDesk x = new EstateDesk();
        x.testator(1);
        x.taker(40, 1, 40);
        x.asset(40, 100, true);
        x.debt(40, 30, 40);
        x.gift(40, 40);
        x.settle();
        Check.due("gift 40: value", x.told(40, 0), 70);
        Check.due("gift 40: owes", x.gets(40, 2), 30);
        Check.due("gift 40: asset 40", x.assetTo(40), 40);
        Check.state("gift 40 has asset 40", () -> x.gift(39, 40));
        Check.state("gift 40 gives asset 40", () -> x.legacy(39, 1, 40));
        x.asset(1, 10, true);
        x.gift(1, 1);
        Check.state("gift 1 gives asset 1", () -> x.legacy(39, 1, 1));
        x.charge(40, false);
        x.settle();
        Check.due("gift 40: bears", x.told(40, 1), 20);
        Check.due("gift 40: abated", x.clauseState(40), 3);
        x.debt(40, 200, 0);
        x.settle();
        Check.due("gift 40: bears all in a shortage", x.told(40, 1), 100);
        Check.due("gift 40: abated in a shortage", x.clauseState(40), 3);
        x.debt(40, 30, 0);
        x.legacy(40, 95, 40);
        x.settle();
        Check.due("legacy 40: drawn", x.told(40, 2), 95);
        Check.due("legacy 40: gets", x.told(40, 3), 80);
        x.residue(40, 7);
        x.settle();
        Check.due("residue 40: gets", x.told(40, 3), 80);
        x.annuity(40, 100, 99);
        x.settle();
        Check.due("annuity 40: gets", x.gets(40, 1), 80);
    }
}
