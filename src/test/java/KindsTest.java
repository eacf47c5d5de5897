/**
 * Promises 7 to 11: "whatever it was before (its ranks stay; the debts stay with it)". Every kind of clause behind every other one
 * must leave the same desk as that kind alone, and free what the one before it had.
 */
public final class KindsTest {
    private static final int FIRST = 1;
    private static final int LAST = 40;

    private interface Kind {
        void write(EstateDesk desk, int clause);
    }

    private static final Kind[] KINDS = {
        (x, clause) -> x.strike(clause),
        (x, clause) -> x.gift(clause, 1),
        (x, clause) -> {
            x.gift(clause, 2);
            x.charge(clause, false);
        },
        (x, clause) -> x.gift(clause, 2),
        (x, clause) -> x.gift(clause, 3),
        (x, clause) -> x.legacy(clause, 700, 2),
        (x, clause) -> x.legacy(clause, 30, 4),
        (x, clause) -> x.legacy(clause, 700, 0),
        (x, clause) -> x.annuity(clause, 50, 60),
        (x, clause) -> x.annuity(clause, 0, 99),
        (x, clause) -> x.residue(clause, 1),
        (x, clause) -> x.residue(clause, 1000),
    };
    private static final int GIFT_CHARGED = 2;

    public static void main(String[] args) {
        for (int clause : new int[] {FIRST, 17, LAST}) {
            for (int before = 0; before < KINDS.length; before++) {
                for (int after = 0; after < KINDS.length; after++) {
                    kindBehindKind(clause, before, after);
                }
            }
            whatAClauseHadIsFree(clause);
        }
        ranksStay();
        Check.end();
    }

    /** Asset 3 is gone, 2 and 4 are funds; there are debts on the assets 1 and 2, and clauses 20 to 22 beside the one looked at. */
    private static EstateDesk will(int clause) {
        EstateDesk x = new EstateDesk();
        x.testator(100);
        x.person(40, 100);
        x.asset(1, 500, false);
        x.asset(2, 600, true);
        x.asset(3, 800, false);
        x.asset(4, 90, true);
        x.gone(3);
        x.debt(1, 100, 1);
        x.debt(2, 200, 2);
        x.debt(3, 300, 0);
        x.legacy(20, 80, 4);
        x.taker(20, 1, 2);
        x.annuity(21, 10, 50);
        x.taker(21, 1, 3);
        x.residue(22, 10);
        x.taker(22, 1, 4);
        x.taker(clause, 1, 40);
        x.taker(clause, 2, 5);
        return x;
    }

    private static void kindBehindKind(int clause, int before, int after) {
        String due = Probe.all(() -> {
            EstateDesk x = will(clause);
            KINDS[after].write(x, clause);
            return x;
        });
        String got = Probe.all(() -> {
            EstateDesk x = will(clause);
            KINDS[before].write(x, clause);
            KINDS[after].write(x, clause);
            return x;
        });
        String settledBetween = Probe.all(() -> {
            EstateDesk x = will(clause);
            KINDS[before].write(x, clause);
            x.settle();
            KINDS[after].write(x, clause);
            x.settle();
            return x;
        });
        String dueSettled = Probe.all(() -> {
            EstateDesk x = will(clause);
            KINDS[after].write(x, clause);
            x.settle();
            return x;
        });
        String what = "clause " + clause + ", kind " + after + " behind kind " + before + ", unlike that kind alone";
        Check.due(what, Probe.difference(due, got), "");
        Check.due(what + ", settled between", Probe.difference(dueSettled, settledBetween), "");
    }

    private static void whatAClauseHadIsFree(int clause) {
        for (int before = 1; before <= 5; before++) {
            for (int after = 0; after < KINDS.length; after++) {
                EstateDesk x = will(clause);
                KINDS[before].write(x, clause);
                int asset = before == 1 ? 1 : before == 4 ? 3 : 2;
                Check.state("kind " + before + " has asset " + asset, () -> x.gift(30, asset));
                KINDS[after].write(x, clause);
                boolean hasIt = asset == 1 ? after == 1 : asset == 3 ? after == 4 : after == GIFT_CHARGED || after == 3 || after == 5;
                String what = "kind " + before + ", then " + after + ": gift of asset " + asset;
                Check.due(what, Check.outcome(() -> {
                    x.gift(30, asset);
                    return 0;
                }), hasIt ? "IllegalStateException" : "0");
            }
        }
    }

    private static void ranksStay() {
        for (int before = 0; before < KINDS.length; before++) {
            EstateDesk x = will(LAST);
            KINDS[before].write(x, LAST);
            x.residue(LAST, 3);
            x.settle();
            Check.due("the ranks stay behind kind " + before, x.told(LAST, 4), 5);
            x.taker(LAST, 1, 6);
            KINDS[before].write(x, LAST);
            x.legacy(LAST, 3, 0);
            x.settle();
            Check.due("a rank told in between stays behind kind " + before, x.told(LAST, 4), 6);
        }
    }
}
