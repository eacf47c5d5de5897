/**
 * The sentences of "Terms" that name a boundary case, one method each, in the document's order: the last number before the
 * boundary, the one on it and the first beyond it. The ranges themselves are in RangesTest, the greatest sums in LimitsTest.
 */
public final class EdgesTest {
    private static final int GOOD = 0;
    private static final int LAPSED = 1;
    private static final int FAILED = 2;
    private static final int ABATED = 3;

    public static void main(String[] args) {
        debtsStayAtFirst();
        noAssetInTwoGifts();
        noAssetInAGiftAndALegacy();
        aLegacysAssetIsAFund();
        outlivedOnEveryEdgeOfTheDays();
        outlivedIfLiving();
        takerIsAtTheLeastRank();
        withoutATakerLapsed();
        takerMayBeAnybodyOften();
        failedIfGoneAndNotLapsed();
        onlyGiftsFail();
        ownAsLongAsNotAboveTheValue();
        ownOfTheOneAboveThePartUpToTheValue();
        ownByRisingNumbers();
        ownOfAnAssetOfNothing();
        ownOnlyIfGivenAndLetStay();
        ownOfTheAssetAlone();
        giftsValueIsLessItsOwnDebts();
        fundGivesAsMuchAsItHas();
        fundGivesByRisingNumbers();
        fundGivesIfNotGone();
        legacyOfTheWholeIsGeneral();
        annuityIsRoundedDown();
        annuityFromAgeToHundred();
        sumsWithoutWhatIsGoneOrGiven();
        shortageIfAbove();
        shortageAbatesAllThatAreGood();
        shortageIsSharedByWhatTheDebtsAre();
        generalPartsBearWhatIsLacking();
        drawnPartsBearUpToTheirSum();
        giftsBearTheRest();
        residueIfAboveNothing();
        residueWithoutAnyGoodShare();
        abatedIfItBearsSomething();
        takersGetAndOwe();
        splitRoundsDownAndAddsByRests();
        splitOfEqualRests();
        splitOfNothing();
        splitOfAllThereIs();
        Check.end();
    }

    private static void debtsStayAtFirst() {
        Check.by("A GIFT of an asset may let the debts charged on it stay with it (at first it does).");
        EstateDesk x = Desks.withTakers();
        x.asset(1, 100, true);
        x.debt(1, 30, 1);
        x.gift(1, 1);
        x.settle();
        Check.due("a new gift", x.sum(6), 70);
        x.charge(1, false);
        x.settle();
        Check.due("not any more", x.sum(6), 100);
        x.legacy(1, 5, 1);
        x.gift(1, 1);
        x.settle();
        Check.due("a gift again, after a legacy", x.sum(6), 70);
        x.charge(1, false);
        x.strike(1);
        x.gift(1, 1);
        x.settle();
        Check.due("a gift again, after it was struck", x.sum(6), 70);
        x.charge(1, false);
        x.charge(1, false);
        x.settle();
        Check.due("told twice that they do not", x.sum(6), 100);
        x.strike(1);
        x.gift(2, 1);
        x.settle();
        Check.due("in another clause", x.sum(6), 70);
    }

    private static void noAssetInTwoGifts() {
        Check.by("No asset is in two GIFTS");
        EstateDesk x = Desks.withTakers();
        x.asset(1, 10, false);
        x.asset(40, 10, false);
        x.gift(40, 1);
        Check.state("in the last clause's gift", () -> x.gift(1, 1));
        Check.state("nor in the clause next to it", () -> x.gift(39, 1));
        Check.passes("its own again", () -> x.gift(40, 1));
        Check.passes("in its place another asset", () -> x.gift(40, 40));
        Check.passes("then it is free", () -> x.gift(1, 1));
        Check.state("the other one is not", () -> x.gift(2, 40));
        Check.state("nor for a clause that is a gift", () -> x.gift(1, 40));
        x.gone(40);
        Check.state("nor if it is gone", () -> x.gift(2, 40));
        x.person(40, 1);
        x.taker(40, 1, 40);
        Check.state("nor if the gift will lapse", () -> x.gift(2, 40));
        x.strike(40);
        Check.passes("but if it was struck", () -> x.gift(2, 40));
        x.settle();
        Check.due("the first asset", x.assetTo(1), 1);
        Check.due("the gone one", x.clauseState(2), FAILED);
    }

    private static void noAssetInAGiftAndALegacy() {
        Check.by("No asset is in ... a GIFT and a LEGACY");
        EstateDesk x = Desks.withTakers();
        x.asset(1, 10, true);
        x.legacy(1, 4, 1);
        x.legacy(40, 4, 1);
        Check.state("a gift of what is in two legacies", () -> x.gift(2, 1));
        Check.state("one of them as a gift, the other stays", () -> x.gift(1, 1));
        Check.state("the other way round", () -> x.gift(40, 1));
        x.strike(40);
        Check.passes("the last one becomes a gift", () -> x.gift(1, 1));
        Check.state("a legacy of what is given", () -> x.legacy(40, 4, 1));
        Check.passes("a legacy of the whole beside it", () -> x.legacy(40, 4, 0));
        Check.state("which may not become one out of it", () -> x.legacy(40, 4, 1));
        Check.passes("the gift becomes a legacy", () -> x.legacy(1, 4, 1));
        Check.passes("then there may be two", () -> x.legacy(40, 4, 1));
        x.settle();
        Check.due("N", x.sum(5), 4);
        Check.due("40 names nobody", x.clauseState(40), LAPSED);
        x.strike(1);
        x.gift(40, 1);
        Check.state("a legacy of what the last clause gives", () -> x.legacy(1, 4, 1));
    }

    private static void aLegacysAssetIsAFund() {
        Check.by("a LEGACY's asset is a FUND");
        EstateDesk x = Desks.withTakers();
        x.asset(1, 10, false);
        x.asset(2, 0, true);
        Check.argument("no fund", () -> x.legacy(1, 0, 1));
        Check.argument("no asset", () -> x.legacy(1, 0, 3));
        Check.passes("a fund of nothing", () -> x.legacy(1, 1, 2));
        x.gone(2);
        Check.passes("a fund that is gone", () -> x.legacy(2, 1, 2));
        x.revalue(1, 20);
        Check.argument("no fund, worth more", () -> x.legacy(1, 0, 1));
        Check.passes("a fund may be given", () -> {
            x.strike(1);
            x.gift(2, 2);
        });
    }

    private static void outlivedOnEveryEdgeOfTheDays() {
        Check.by("A person OUTLIVED the testator if living, or with a later DAY.");
        int[][] days = {
            {1, 1, LAPSED}, {1, 2, GOOD}, {1, 100000, GOOD}, {2, 1, LAPSED}, {2, 2, LAPSED}, {2, 3, GOOD}, {99999, 99998, LAPSED},
            {99999, 99999, LAPSED}, {99999, 100000, GOOD}, {100000, 1, LAPSED}, {100000, 99999, LAPSED}, {100000, 100000, LAPSED},
        };
        EstateDesk x = new EstateDesk();
        x.residue(1, 1);
        x.taker(1, 1, 1);
        for (int[] each : days) {
            x.testator(each[0]);
            x.person(1, each[1]);
            x.settle();
            Check.due("testator on " + each[0] + ", person on " + each[1], x.clauseState(1), each[2]);
        }
    }

    private static void outlivedIfLiving() {
        Check.by("A person died on a DAY; 0: is living.");
        EstateDesk x = new EstateDesk();
        x.residue(1, 1);
        x.taker(1, 1, 40);
        x.testator(100000);
        x.settle();
        Check.due("nothing told of the person", x.clauseState(1), GOOD);
        x.person(40, 0);
        x.settle();
        Check.due("told to be living", x.clauseState(1), GOOD);
        x.person(40, 100000);
        x.settle();
        Check.due("told to be dead", x.clauseState(1), LAPSED);
        x.person(40, 0);
        x.settle();
        Check.due("living after all", x.clauseState(1), GOOD);
        x.person(39, 1);
        x.settle();
        Check.due("another one died", x.clauseState(1), GOOD);
    }

    private static void takerIsAtTheLeastRank() {
        Check.by("A clause's TAKER is the person at its least rank who did");
        for (int outlived = 0; outlived < 16; outlived++) {
            EstateDesk x = new EstateDesk();
            x.testator(100);
            x.residue(1, 1);
            int due = 0;
            for (int rank = 4; rank >= 1; rank--) {
                boolean lives = (outlived & 1 << rank - 1) != 0;
                x.taker(1, rank, 10 * rank);
                x.person(10 * rank, lives ? 101 : 100);
                due = lives ? 10 * rank : due;
            }
            x.settle();
            Check.due("who outlived: " + Integer.toBinaryString(outlived), x.told(1, 4), due);
            Check.due("state: " + Integer.toBinaryString(outlived), x.clauseState(1), due == 0 ? LAPSED : GOOD);
        }
    }

    private static void withoutATakerLapsed() {
        Check.by("without one it is LAPSED (1)");
        EstateDesk x = new EstateDesk();
        x.testator(100);
        x.person(40, 100);
        x.asset(1, 10, false);
        x.asset(2, 10, true);
        x.gift(1, 1);
        x.legacy(2, 10, 2);
        x.legacy(3, 10, 0);
        x.annuity(4, 10, 10);
        x.residue(5, 1);
        for (int rank = 0; rank <= 4; rank++) {
            for (int clause = 1; clause <= 5; clause++) {
                if (rank > 0) {
                    x.taker(clause, rank, 40);
                }
            }
            x.settle();
            for (int clause = 1; clause <= 5; clause++) {
                Check.due("the dead at ranks up to " + rank + ", clause " + clause, x.clauseState(clause), LAPSED);
                Check.due("no taker, clause " + clause, x.told(clause, 4), 0);
            }
            Check.due("all is for the heirs at law", x.gets(0, 1), 20);
        }
        x.taker(1, 4, 39);
        x.settle();
        Check.due("one at the last rank", x.clauseState(1), GOOD);
        x.taker(1, 4, 0);
        x.settle();
        Check.due("nobody there again", x.clauseState(1), LAPSED);
    }

    private static void takerMayBeAnybodyOften() {
        Check.by("The person at a clause's rank (0: nobody); also of a number that is no clause (yet).");
        EstateDesk x = new EstateDesk();
        x.testator(100);
        for (int rank = 1; rank <= 4; rank++) {
            x.taker(40, rank, 7);
            x.taker(39, rank, 7);
        }
        x.settle();
        Check.due("no clause yet", x.clauseState(40), EstateDesk.NONE);
        Check.due("no clause, no taker", x.told(40, 4), 0);
        x.residue(40, 1);
        x.settle();
        Check.due("the same person at every rank", x.told(40, 4), 7);
        x.taker(40, 1, 0);
        x.settle();
        Check.due("nobody at rank 1, the next one counts", x.told(40, 4), 7);
        x.person(7, 100);
        x.settle();
        Check.due("dead at every rank", x.clauseState(40), LAPSED);
        x.strike(40);
        x.person(7, 0);
        x.residue(40, 1);
        x.settle();
        Check.due("the ranks stay where a clause is struck", x.told(40, 4), 7);
        x.annuity(39, 1, 1);
        x.settle();
        Check.due("another clause may name the same person", x.told(39, 4), 7);
    }

    private static void failedIfGoneAndNotLapsed() {
        Check.by("A GIFT that is not LAPSED has FAILED (2), if its asset is GONE.");
        EstateDesk x = Desks.withTakers();
        x.asset(1, 10, false);
        x.gift(1, 1);
        x.settle();
        Check.due("not gone", x.clauseState(1), GOOD);
        x.gone(1);
        x.settle();
        Check.due("gone", x.clauseState(1), FAILED);
        for (int what = 0; what <= 4; what++) {
            Check.due("nothing is told of it: " + what, x.told(1, what), 0);
        }
        x.taker(1, 1, 40);
        x.settle();
        Check.due("gone, and without a taker", x.clauseState(1), LAPSED);
        x.taker(1, 4, 1);
        x.revalue(1, 20);
        x.settle();
        Check.due("gone, and revalued", x.clauseState(1), FAILED);
        Check.due("its value is nowhere", x.sum(0) + x.sum(2) + x.sum(6), 0);
        x.debt(1, 1, 0);
        Check.due("a shortage", x.settle(), 1);
        Check.due("failed, not abated", x.clauseState(1), FAILED);
    }

    private static void onlyGiftsFail() {
        Check.by("All others are GOOD (0).");
        EstateDesk x = Desks.withTakers();
        x.asset(1, 10, true);
        x.asset(2, 1000, false);
        x.legacy(1, 10, 1);
        x.legacy(2, 10, 0);
        x.annuity(3, 0, 0);
        x.residue(4, 1);
        x.gone(1);
        x.settle();
        for (int clause = 1; clause <= 4; clause++) {
            Check.due("clause " + clause, x.clauseState(clause), GOOD);
        }
        Check.due("the legacy is paid out of the whole", x.told(1, 3), 10);
    }

    private static EstateDesk giftOf100(long... debts) {
        EstateDesk x = Desks.withTakers();
        x.asset(1, 100, false);
        x.asset(2, 1000, false);
        x.gift(1, 1);
        for (int debt = 1; debt <= debts.length; debt++) {
            x.debt(debt, debts[debt - 1], 1);
        }
        x.settle();
        return x;
    }

    private static void ownAsLongAsNotAboveTheValue() {
        Check.by("those are its OWN ... as long as their sum is not above its value");
        long[][] due = {{0, 0}, {1, 0}, {99, 0}, {100, 0}, {101, 1}, {1000, 900}};
        for (long[] each : due) {
            EstateDesk x = giftOf100(each[0]);
            Check.due("one debt of " + each[0] + ": ordinary", x.sum(3), each[1]);
            Check.due("one debt of " + each[0] + ": owes", x.gets(1, 2), each[0] - each[1]);
            EstateDesk y = giftOf100(0, each[0]);
            Check.due("behind one of nothing, " + each[0] + ": ordinary", y.sum(3), each[1]);
        }
        Check.due("two up to the value", giftOf100(60, 40).sum(3), 0);
        Check.due("two just below", giftOf100(60, 39).sum(3), 0);
        Check.due("two just above", giftOf100(60, 41).sum(3), 1);
        Check.due("the first is the value, one more cent", giftOf100(100, 1).sum(3), 1);
        Check.due("the first is the value, then nothing", giftOf100(100, 0).sum(3), 0);
    }

    private static void ownOfTheOneAboveThePartUpToTheValue() {
        Check.by("of the one with which it would be, the part up to the value, the rest and all further ones ... are ORDINARY");
        EstateDesk x = giftOf100(60, 50, 5, 0, 1);
        Check.due("10 of the second, 5 and 1", x.sum(3), 16);
        Check.due("owes the value", x.gets(1, 2), 100);
        Check.due("S", x.sum(6), 0);
        Check.due("all are paid", x.sum(1), 116);
        x.gone(2);
        Check.due("a shortage of the ordinary ones", x.settle(), 16);
        Check.due("the first is its own", x.paid(1), 60);
        Check.due("40 of the second are", x.paid(2), 40);
        Check.due("nothing of the third, though it was small enough", x.paid(3), 0);
        Check.due("nothing of the last", x.paid(5), 0);
        EstateDesk y = giftOf100(101, 1);
        y.gone(2);
        Check.due("the first is above", y.settle(), 2);
        Check.due("its part up to the value", y.paid(1), 100);
        Check.due("nothing of the second", y.paid(2), 0);
    }

    private static void ownByRisingNumbers() {
        Check.by("by rising numbers");
        EstateDesk x = Desks.withTakers();
        x.asset(1, 100, false);
        x.gift(1, 1);
        x.debt(40, 70, 1);
        x.debt(20, 50, 1);
        x.debt(1, 40, 1);
        Check.due("told the other way round", x.settle(), 60);
        Check.due("the least number first", x.paid(1), 40);
        Check.due("then the next", x.paid(20), 50);
        Check.due("then what is left", x.paid(40), 10);
        x.debt(1, 0, 1);
        Check.due("the first becomes nothing", x.settle(), 20);
        Check.due("more for the last", x.paid(40), 50);
    }

    private static void ownOfAnAssetOfNothing() {
        Check.by("as long as their sum is not above its value");
        EstateDesk x = Desks.withTakers();
        x.asset(1, 0, false);
        x.gift(1, 1);
        x.debt(1, 0, 1);
        Check.due("a debt of nothing on nothing", x.settle(), 0);
        Check.due("is paid with nothing", x.paid(1), 0);
        Check.due("nothing goes to", x.assetTo(1), 1);
        x.debt(1, 1, 1);
        Check.due("a cent on nothing is ordinary", x.settle(), 1);
        Check.due("D", x.sum(3), 1);
        x.revalue(1, 1);
        Check.due("a cent on a cent is its own", x.settle(), 0);
        Check.due("D", x.sum(3), 0);
    }

    private static void ownOnlyIfGivenAndLetStay() {
        Check.by("if a GOOD GIFT gives it and lets them stay ... (and all other debts) are ORDINARY");
        EstateDesk x = giftOf100(30);
        Check.due("good, and lets them stay", x.sum(3), 0);
        x.charge(1, false);
        x.settle();
        Check.due("does not let them stay", x.sum(3), 30);
        Check.due("its value is the asset's", x.told(1, 0), 100);
        x.charge(1, true);
        x.taker(1, 1, 40);
        x.settle();
        Check.due("lapsed", x.sum(3), 30);
        Check.due("lapsed: T", x.sum(2), 1100);
        x.taker(1, 1, 1);
        x.gone(1);
        x.settle();
        Check.due("failed", x.sum(3), 30);
        x.strike(1);
        x.settle();
        Check.due("struck", x.sum(3), 30);
        EstateDesk y = giftOf100();
        y.debt(1, 30, 0);
        y.settle();
        Check.due("charged on none", y.sum(3), 30);
        y.asset(3, 50, true);
        y.legacy(2, 50, 3);
        y.debt(1, 30, 3);
        y.settle();
        Check.due("charged on a legacy's fund", y.sum(3), 30);
        Check.due("the fund gives all the same", y.told(2, 2), 50);
    }

    private static void ownOfTheAssetAlone() {
        Check.by("Of the debts charged on an asset those are its OWN");
        EstateDesk x = giftOf100();
        x.gift(2, 2);
        x.debt(1, 150, 2);
        x.debt(2, 150, 1);
        x.settle();
        Check.due("asset 1: up to its value", x.told(1, 0), 0);
        Check.due("asset 2: all of it", x.told(2, 0), 850);
        Check.due("the rest of the one on asset 1", x.sum(3), 50);
        Check.due("which the other gift bears", x.told(2, 1), 50);
        x.debt(2, 150, 2);
        x.settle();
        Check.due("charged on another asset now", x.told(1, 0), 100);
        Check.due("both on asset 2", x.told(2, 0), 700);
    }

    private static void giftsValueIsLessItsOwnDebts() {
        Check.by("a GIFT's is its asset's less its OWN debts");
        Check.due("none", giftOf100().told(1, 0), 100);
        Check.due("99", giftOf100(99).told(1, 0), 1);
        Check.due("100", giftOf100(100).told(1, 0), 0);
        Check.due("101", giftOf100(101).told(1, 0), 0);
        Check.due("a gift of no value is good", giftOf100(101).clauseState(1), GOOD);
        Check.due("its asset is got", giftOf100(101).gets(1, 0), 100);
    }

    private static EstateDesk legaciesOf100(long fund) {
        EstateDesk x = Desks.withTakers();
        x.asset(1, fund, true);
        x.asset(2, 1000, false);
        x.legacy(2, 60, 1);
        x.legacy(4, 40, 1);
        x.settle();
        return x;
    }

    private static void fundGivesAsMuchAsItHas() {
        Check.by("A LEGACY's FUND, if not GONE, gives as much as it has ... the rest ... is GENERAL");
        long[][] due = {{0, 0, 0}, {1, 1, 0}, {59, 59, 0}, {60, 60, 0}, {61, 60, 1}, {99, 60, 39}, {100, 60, 40}, {101, 60, 40}};
        for (long[] each : due) {
            EstateDesk x = legaciesOf100(each[0]);
            Check.due("fund of " + each[0] + ": first drawn", x.told(2, 2), each[1]);
            Check.due("fund of " + each[0] + ": second drawn", x.told(4, 2), each[2]);
            Check.due("fund of " + each[0] + ": N", x.sum(5), each[1] + each[2]);
            Check.due("fund of " + each[0] + ": G", x.sum(4), 100 - each[1] - each[2]);
            Check.due("fund of " + each[0] + ": T", x.sum(2), 1000 + each[0] - each[1] - each[2]);
            Check.due("fund of " + each[0] + ": value", x.told(2, 0), 60);
            Check.due("fund of " + each[0] + ": gets", x.told(4, 3), 40);
        }
    }

    private static void fundGivesByRisingNumbers() {
        Check.by("by rising numbers of the LEGACIES out of it");
        EstateDesk x = legaciesOf100(50);
        x.legacy(1, 20, 1);
        x.settle();
        Check.due("told last, the least number", x.told(1, 2), 20);
        Check.due("the next has the rest", x.told(2, 2), 30);
        Check.due("nothing is left", x.told(4, 2), 0);
        x.legacy(1, 0, 1);
        x.settle();
        Check.due("of nothing draws nothing", x.told(2, 2), 50);
        x.taker(2, 1, 40);
        x.settle();
        Check.due("a lapsed one draws nothing", x.told(2, 2), 0);
        Check.due("more for the next", x.told(4, 2), 40);
        Check.due("the rest of the fund is in T", x.sum(2), 1010);
    }

    private static void fundGivesIfNotGone() {
        Check.by("A LEGACY's FUND, if not GONE");
        EstateDesk x = legaciesOf100(100);
        x.gone(1);
        x.settle();
        Check.due("gone: nothing drawn", x.sum(5), 0);
        Check.due("gone: all is general", x.sum(4), 100);
        Check.due("gone: the value stays", x.told(2, 0), 60);
        Check.due("gone: T", x.sum(2), 1000);
        x.gone(2);
        x.settle();
        Check.due("nothing left at all: bears its value", x.told(2, 1), 60);
        Check.due("nothing left at all: gets nothing", x.told(2, 3), 0);
        Check.due("nothing left at all: abated", x.clauseState(2), ABATED);
    }

    private static void legacyOfTheWholeIsGeneral() {
        Check.by("the rest, and a LEGACY of the whole, is GENERAL");
        EstateDesk x = Desks.withTakers();
        x.asset(1, 100, true);
        x.legacy(1, 100, 0);
        x.settle();
        Check.due("nothing drawn, though there is a fund", x.told(1, 2), 0);
        Check.due("G", x.sum(4), 100);
        Check.due("no residue", x.sum(7), 0);
        x.legacy(1, 101, 0);
        x.settle();
        Check.due("one more than there is", x.told(1, 1), 1);
        x.legacy(1, 0, 0);
        x.settle();
        Check.due("of nothing", x.clauseState(1), GOOD);
        Check.due("of nothing: its taker", x.told(1, 4), 1);
    }

    private static void annuityIsRoundedDown() {
        Check.by("divided by 10^6, rounded down; f(0) is 10^6, f(k) is 96 f(k - 1) / 100, rounded down");
        EstateDesk x = new EstateDesk();
        Check.due("960000 of a million, of one cent", x.worth(1, 99), 0);
        Check.due("of two cents", x.worth(2, 99), 1);
        Check.due("of 25 cents, just 24", x.worth(25, 99), 24);
        Check.due("of 24 cents, 23.04", x.worth(24, 99), 23);
        Check.due("f(4) is 849346.56, rounded down", x.worth(1000000, 96) - x.worth(1000000, 97), 849346);
        Check.due("f(5) is 96 * 849346 / 100 = 815372.16", x.worth(1000000, 95) - x.worth(1000000, 96), 815372);
        Check.due("two cents, 98: 3.7632", x.worth(2, 98), 3);
        long factor = 1000000;
        long sum = 0;
        for (int age = 99; age >= 0; age--) {
            factor = factor * 96 / 100;
            sum += factor;
            Check.due("of a million at " + age, x.worth(1000000, age), sum);
            Check.due("of 10^9 at " + age, x.worth(1000000000L, age), 1000 * sum);
            Check.due("of 999,999,999 at " + age, x.worth(999999999L, age), (999999999L * sum) / 1000000);
        }
    }

    private static void annuityFromAgeToHundred() {
        Check.by("An ANNUITY of y cents (0 .. 10^9) at age a (0 .. 99) is GENERAL ... for k from 1 to 100 - a");
        EstateDesk x = Desks.withTakers();
        x.asset(1, 24000000000L, true);
        long[][] due = {{1000000000L, 0, 23594306000L}, {1000000000L, 99, 960000000L}, {0, 0, 0}, {0, 99, 0}, {1, 99, 0}, {1, 0, 23}};
        for (long[] each : due) {
            x.annuity(1, each[0], (int) each[1]);
            x.settle();
            Check.due(each[0] + " at " + each[1] + ": value", x.told(1, 0), each[2]);
            Check.due(each[0] + " at " + each[1] + ": worth", x.worth(each[0], (int) each[1]), each[2]);
            Check.due(each[0] + " at " + each[1] + ": G", x.sum(4), each[2]);
            Check.due(each[0] + " at " + each[1] + ": nothing drawn", x.told(1, 2), 0);
            Check.due(each[0] + " at " + each[1] + ": gets", x.gets(1, 1), each[2]);
            Check.due(each[0] + " at " + each[1] + ": state", x.clauseState(1), GOOD);
        }
    }

    private static void sumsWithoutWhatIsGoneOrGiven() {
        Check.by("T is the sum of all assets that are not GONE and not given by a GOOD GIFT, less all DRAWN parts");
        EstateDesk x = Desks.withTakers();
        x.asset(1, 1, false);
        x.asset(2, 20, false);
        x.asset(3, 300, true);
        x.asset(40, 4000, false);
        x.settle();
        Check.due("all of them", x.sum(2), 4321);
        x.gift(1, 40);
        x.settle();
        Check.due("one is given", x.sum(2), 321);
        Check.due("S", x.sum(6), 4000);
        x.taker(1, 1, 40);
        x.settle();
        Check.due("by a gift that is lapsed", x.sum(2), 4321);
        x.taker(1, 1, 1);
        x.legacy(2, 299, 3);
        x.settle();
        Check.due("less what is drawn", x.sum(2), 22);
        x.gone(2);
        x.settle();
        Check.due("less what is gone", x.sum(2), 2);
        x.gone(40);
        x.settle();
        Check.due("given and gone", x.sum(2), 2);
        Check.due("assets not gone", x.sum(0), 301);
        x.gone(3);
        x.gone(1);
        x.settle();
        Check.due("all gone", x.sum(2) + x.sum(0) + x.sum(5) + x.sum(6), 0);
        Check.due("all gone: G", x.sum(4), 299);
    }

    /** T is 200, N 150, S 400, G 150: the gifts 1 and 2, the legacies 3 and 4 out of a fund, and 5 of the whole; a residue share. */
    private static EstateDesk allClasses(long debt) {
        EstateDesk x = Desks.withTakers();
        x.asset(1, 300, false);
        x.gift(1, 1);
        x.asset(2, 100, false);
        x.gift(2, 2);
        x.asset(3, 150, true);
        x.legacy(3, 100, 3);
        x.legacy(4, 80, 3);
        x.asset(4, 200, false);
        x.legacy(5, 120, 0);
        x.residue(6, 1);
        x.debt(1, debt, 0);
        x.settle();
        return x;
    }

    private static void shortageIfAbove() {
        Check.by("If D is above T + N + S, the difference is the SHORTAGE");
        long[][] due = {{0, 0}, {749, 0}, {750, 0}, {751, 1}, {752, 2}, {1000000000000L, 999999999250L}};
        for (long[] each : due) {
            EstateDesk x = allClasses(each[0]);
            Check.due("D of " + each[0], x.settle(), each[1]);
            Check.due("D of " + each[0] + ": paid", x.paid(1), each[0] - each[1]);
            Check.due("D of " + each[0] + ": all paid", x.sum(1), each[0] - each[1]);
            Check.due("D of " + each[0] + ": asset", x.assetTo(1), each[1] > 0 ? EstateDesk.NONE : 1);
        }
    }

    private static void shortageAbatesAllThatAreGood() {
        Check.by("nobody gets anything, all GOOD clauses are ABATED (3), each bears its whole VALUE (both parts)");
        EstateDesk x = allClasses(751);
        x.asset(9, 10, false);
        x.gone(9);
        x.gift(7, 9);
        x.residue(8, 3);
        x.taker(8, 1, 40);
        x.annuity(9, 0, 0);
        Check.due("one cent above", x.settle(), 1);
        int[] states = {ABATED, ABATED, ABATED, ABATED, ABATED, ABATED, FAILED, LAPSED, ABATED};
        long[] values = {300, 100, 100, 80, 120, 0, 0, 0, 0};
        long[] drawn = {0, 0, 100, 50, 0, 0, 0, 0, 0};
        int[] takers = {1, 2, 3, 4, 5, 6, 0, 0, 9};
        for (int clause = 1; clause <= 9; clause++) {
            Check.due("state of " + clause, x.clauseState(clause), states[clause - 1]);
            Check.due("value of " + clause, x.told(clause, 0), values[clause - 1]);
            Check.due("borne by " + clause, x.told(clause, 1), values[clause - 1]);
            Check.due("drawn by " + clause, x.told(clause, 2), drawn[clause - 1]);
            Check.due("got by " + clause, x.told(clause, 3), 0);
            Check.due("taker of " + clause, x.told(clause, 4), takers[clause - 1]);
        }
        for (int person = 0; person <= Desks.MOST; person++) {
            for (int what = 0; what <= 2; what++) {
                Check.due("person " + person + " gets " + what, x.gets(person, what), 0);
            }
            if (person > 0) {
                Check.due("nobody got asset " + person, x.assetTo(person), EstateDesk.NONE);
            }
        }
        Check.due("the RESIDUE (0 with a SHORTAGE)", x.sum(7), 0);
    }

    private static void shortageIsSharedByWhatTheDebtsAre() {
        Check.by("T + N + S is SPLIT among the ORDINARY debts by what they are");
        EstateDesk x = Desks.withTakers();
        x.asset(1, 100, false);
        x.gift(1, 1);
        x.debt(1, 90, 1);
        x.debt(2, 30, 1);
        x.debt(3, 40, 0);
        x.debt(4, 0, 0);
        Check.due("20 of debt 2 and 40 of debt 3 are ordinary", x.settle(), 60);
        x.asset(2, 30, false);
        Check.due("30 for 60", x.settle(), 30);
        Check.due("its own debt, in full", x.paid(1), 90);
        Check.due("10 of its own, and half of 20", x.paid(2), 20);
        Check.due("half of 40", x.paid(3), 20);
        Check.due("of nothing", x.paid(4), 0);
        Check.due("none such", x.paid(5), 0);
        Check.due("debts paid", x.sum(1), 130);
        x.revalue(2, 59);
        Check.due("59 for 60", x.settle(), 1);
        Check.due("20 * 59 / 60 is 19, rest 40", x.paid(2), 30);
        Check.due("40 * 59 / 60 is 39, rest 20", x.paid(3), 39);
        x.revalue(2, 60);
        Check.due("60 for 60", x.settle(), 0);
        Check.due("all is paid", x.sum(1), 160);
    }

    private static void generalPartsBearWhatIsLacking() {
        Check.by("the GENERAL parts bear G less the lesser of G and T - D (of 0, if T is below D)");
        long[][] due = {{0, 0}, {49, 0}, {50, 0}, {51, 1}, {199, 149}, {200, 150}, {201, 150}, {350, 150}, {750, 150}};
        for (long[] each : due) {
            EstateDesk x = allClasses(each[0]);
            long drawn = Math.max(0, Math.min(150, each[0] - 200));
            long borne = x.told(3, 1) + x.told(4, 1) + x.told(5, 1) - drawn;
            Check.due("D of " + each[0] + ": general parts", borne, each[1]);
            Check.due("D of " + each[0] + ": the legacy of the whole", x.told(5, 1), (each[1] * 120 + 75) / 150);
            Check.due("D of " + each[0] + ": gets", x.told(5, 3), 120 - x.told(5, 1));
        }
    }

    private static void drawnPartsBearUpToTheirSum() {
        Check.by("the DRAWN ones the lesser of N and what D is above T (0, if not)");
        long[][] due = {{199, 0}, {200, 0}, {201, 1}, {203, 2}, {349, 99}, {350, 100}, {351, 100}, {750, 100}};
        for (long[] each : due) {
            EstateDesk x = allClasses(each[0]);
            Check.due("D of " + each[0] + ": 100 of 150 drawn", x.told(3, 1), each[1]);
            Check.due("D of " + each[0] + ": gets", x.gets(3, 1), 100 - each[1]);
            Check.due("D of " + each[0] + ": state", x.clauseState(3), each[1] > 0 ? ABATED : GOOD);
        }
    }

    private static void giftsBearTheRest() {
        Check.by("GIFTS the rest of that");
        long[][] due = {{200, 0, 0}, {350, 0, 0}, {351, 1, 0}, {352, 2, 0}, {353, 2, 1}, {354, 3, 1}, {749, 299, 100}, {750, 300, 100}};
        for (long[] each : due) {
            EstateDesk x = allClasses(each[0]);
            Check.due("D of " + each[0] + ": 300 of 400", x.told(1, 1), each[1]);
            Check.due("D of " + each[0] + ": 100 of 400", x.told(2, 1), each[2]);
            Check.due("D of " + each[0] + ": owes", x.gets(1, 2), each[1]);
            Check.due("D of " + each[0] + ": still has the asset", x.gets(1, 0), 300);
            Check.due("D of " + each[0] + ": state", x.clauseState(2), each[2] > 0 ? ABATED : GOOD);
        }
    }

    private static void residueIfAboveNothing() {
        Check.by("The RESIDUE, T less D less G, if that is above 0, is SPLIT among the GOOD RESIDUE clauses by their parts");
        long[][] due = {{0, 50}, {48, 2}, {49, 1}, {50, 0}, {51, 0}, {200, 0}, {750, 0}, {751, 0}};
        for (long[] each : due) {
            EstateDesk x = allClasses(each[0]);
            Check.due("D of " + each[0] + ": residue", x.sum(7), each[1]);
            Check.due("D of " + each[0] + ": share", x.told(6, 3), each[1]);
            Check.due("D of " + each[0] + ": gets", x.gets(6, 1), each[1]);
            Check.due("D of " + each[0] + ": bears nothing", x.told(6, 1), 0);
            Check.due("D of " + each[0] + ": no value", x.told(6, 0), 0);
            Check.due("D of " + each[0] + ": heirs at law", x.gets(0, 1), 0);
        }
    }

    private static void residueWithoutAnyGoodShare() {
        Check.by("without any it is for person 0");
        EstateDesk x = allClasses(0);
        Check.due("one good share", x.gets(0, 1), 0);
        x.taker(6, 1, 40);
        x.settle();
        Check.due("a lapsed share", x.gets(0, 1), 50);
        Check.due("nothing for the dead", x.gets(40, 1), 0);
        Check.due("the sum", x.sum(7), 50);
        x.strike(6);
        x.settle();
        Check.due("no share", x.gets(0, 1), 50);
        x.debt(1, 49, 0);
        x.settle();
        Check.due("one cent", x.gets(0, 1), 1);
        x.debt(1, 50, 0);
        x.settle();
        Check.due("nothing", x.gets(0, 1), 0);
        x.debt(1, 0, 0);
        x.residue(40, 1);
        x.taker(40, 4, 7);
        x.settle();
        Check.due("a share with one at the last rank", x.gets(7, 1), 50);
        Check.due("heirs at law get nothing then", x.gets(0, 1), 0);
    }

    private static void abatedIfItBearsSomething() {
        Check.by("A clause that bears something is ABATED.");
        EstateDesk x = Desks.withTakers();
        x.asset(1, 10, false);
        x.legacy(1, 5, 0);
        x.legacy(2, 5, 0);
        x.legacy(3, 0, 0);
        x.debt(1, 1, 0);
        x.settle();
        Check.due("one cent, the lesser number bears it", x.clauseState(1), ABATED);
        Check.due("the other bears nothing of it", x.clauseState(2), GOOD);
        Check.due("of nothing bears nothing", x.clauseState(3), GOOD);
        x.debt(1, 2, 0);
        x.settle();
        Check.due("two cents", x.clauseState(2), ABATED);
        x.debt(1, 10, 0);
        x.settle();
        Check.due("all of it", x.told(2, 1), 5);
        Check.due("of nothing, where all is borne", x.clauseState(3), GOOD);
        x.debt(1, 0, 0);
        x.settle();
        Check.due("good again", x.clauseState(1), GOOD);
    }

    private static void takersGetAndOwe() {
        Check.by("The TAKER of a GIFT gets the asset, and owes its OWN debts and what the GIFT bears");
        EstateDesk x = allClasses(354);
        x.debt(2, 40, 2);
        x.settle();
        Check.due("owes 40 and 1", x.gets(2, 2), 41);
        Check.due("gets the asset's value, not the gift's", x.gets(2, 0), 100);
        Check.due("no cents", x.gets(2, 1), 0);
        x.debt(2, 100, 2);
        x.settle();
        Check.due("owes the whole value", x.gets(2, 2), 100);
        Check.due("bears nothing, having no value", x.told(2, 1), 0);
        Check.due("is good", x.clauseState(2), GOOD);
        Check.due("the other gift bears all", x.gets(1, 2), 4);
        x.taker(2, 1, 1);
        x.settle();
        Check.due("one person with both gifts: owes", x.gets(1, 2), 104);
        Check.due("one person with both gifts: gets", x.gets(1, 0), 400);
        Check.due("the other one has nothing", x.gets(2, 0) + x.gets(2, 2), 0);
    }

    private static EstateDesk residueOf(long cents, int... parts) {
        EstateDesk x = Desks.withTakers();
        x.asset(1, cents, false);
        for (int clause = 1; clause <= parts.length; clause++) {
            x.residue(clause, parts[clause - 1]);
        }
        x.settle();
        return x;
    }

    private static void dueShares(EstateDesk x, long... due) {
        for (int clause = 1; clause <= due.length; clause++) {
            Check.due("share " + clause, x.told(clause, 3), due[clause - 1]);
            Check.due("person " + clause, x.gets(clause, 1), due[clause - 1]);
        }
    }

    private static void splitRoundsDownAndAddsByRests() {
        Check.by("each gets L w / W, rounded down; one more get those with the greatest rests, ... as many as are lacking");
        dueShares(residueOf(10, 1, 2, 4), 1, 3, 6);
        dueShares(residueOf(7, 1, 2, 4), 1, 2, 4);
        dueShares(residueOf(6, 1, 2, 4), 1, 2, 3);
        dueShares(residueOf(1, 1, 2, 4), 0, 0, 1);
        dueShares(residueOf(2, 1, 2, 4), 0, 1, 1);
        dueShares(residueOf(1000, 1, 999), 1, 999);
        dueShares(residueOf(999, 1, 999), 1, 998);
        dueShares(residueOf(1, 1000, 1), 1, 0);
        dueShares(residueOf(500, 1, 1000), 0, 500);
        dueShares(residueOf(501, 1, 1000), 1, 500);
        dueShares(residueOf(999999999999L, 1000, 1, 1000), 499750124937L, 499750125L, 499750124937L);
    }

    private static void splitOfEqualRests() {
        Check.by("of equal rests the lesser number");
        dueShares(residueOf(1, 1, 1, 1), 1, 0, 0);
        dueShares(residueOf(2, 1, 1, 1), 1, 1, 0);
        dueShares(residueOf(3, 1, 1, 1), 1, 1, 1);
        dueShares(residueOf(4, 1, 1, 1), 2, 1, 1);
        dueShares(residueOf(8, 1, 1, 1, 1, 1, 1, 1, 1, 1), 1, 1, 1, 1, 1, 1, 1, 1, 0);
        dueShares(residueOf(1, 2, 2, 1), 1, 0, 0);
        dueShares(residueOf(1, 1, 2, 2), 0, 1, 0);
        dueShares(residueOf(3, 1, 2, 2, 1), 1, 1, 1, 0);
    }

    private static void splitOfNothing() {
        Check.by("(W = 0: nothing.)");
        dueShares(residueOf(0, 1, 1000), 0, 0);
        EstateDesk x = Desks.withTakers();
        x.legacy(1, 0, 0);
        x.debt(1, 0, 0);
        Check.due("no weight in any class", x.settle(), 0);
        Check.due("bears nothing", x.told(1, 1), 0);
        x.debt(1, 1, 0);
        Check.due("nothing to split", x.settle(), 1);
        Check.due("nothing is paid", x.paid(1), 0);
        x.asset(1, 1, false);
        Check.due("a cent for a cent", x.settle(), 0);
        Check.due("is paid", x.paid(1), 1);
    }

    private static void splitOfAllThereIs() {
        Check.by("(L is not above W, but for the RESIDUE)");
        EstateDesk x = Desks.withTakers();
        x.asset(1, 10, false);
        x.legacy(1, 3, 0);
        x.legacy(2, 7, 0);
        x.debt(1, 10, 0);
        x.settle();
        Check.due("L is W: each bears its own", x.told(1, 1), 3);
        Check.due("L is W: each bears its own", x.told(2, 1), 7);
        x.debt(1, 9, 0);
        x.settle();
        Check.due("9 * 3 / 10 is 2, rest 7", x.told(1, 1), 3);
        Check.due("9 * 7 / 10 is 6, rest 3", x.told(2, 1), 6);
        dueShares(residueOf(1000000000000L, 1), 1000000000000L);
        dueShares(residueOf(1000000000000L, 1, 3), 250000000000L, 750000000000L);
    }
}
