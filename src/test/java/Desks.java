/** Desks in the situations that the tests start from; each call makes a new one. */
final class Desks {
    static final int MOST = 40;
    static final int RANKS = 4;
    static final int LAST_DAY = 100000;
    static final long MOST_CENTS = 1000000000000L;

    private Desks() {
    }

    /** The testator died on day 100; the clauses 1 to 9 name the persons 1 to 9; person 40 died on the testator's day. */
    static EstateDesk withTakers() {
        EstateDesk x = new EstateDesk();
        x.testator(100);
        x.person(40, 100);
        for (int clause = 1; clause <= 9; clause++) {
            x.taker(clause, 1, clause);
        }
        return x;
    }

    /**
     * Clauses of every kind and every state: 1 a gift of asset 1, with a debt; 2 a legacy out of the fund 2; 3 a gift of asset 4,
     * which is gone; 4 an annuity; 5 and 6 residue shares, of which 6 is lapsed; 7 a legacy of the whole; 8 a gift of the fund 3,
     * whose debt does not stay with it; 9 no clause, but with a person named. Settled, and no fact told since.
     */
    static EstateDesk settled() {
        EstateDesk x = new EstateDesk();
        tellTheWill(x);
        x.settle();
        return x;
    }

    static void tellTheWill(EstateDesk x) {
        x.testator(100);
        x.person(2, 100);
        x.person(3, 101);
        x.person(4, 99);
        x.asset(1, 50000, false);
        x.asset(2, 30000, true);
        x.asset(3, 700, true);
        x.asset(4, 900, false);
        x.asset(40, 50000, false);
        x.gone(4);
        x.gift(1, 1);
        x.taker(1, 1, 2);
        x.taker(1, 2, 3);
        x.legacy(2, 40000, 2);
        x.taker(2, 1, 1);
        x.gift(3, 4);
        x.taker(3, 1, 5);
        x.annuity(4, 1000, 50);
        x.taker(4, 3, 6);
        x.residue(5, 2);
        x.taker(5, 1, 7);
        x.residue(6, 1);
        x.taker(6, 1, 4);
        x.legacy(7, 100, 0);
        x.taker(7, 4, 8);
        x.gift(8, 3);
        x.taker(8, 1, 9);
        x.charge(8, false);
        x.taker(9, 1, 10);
        x.debt(1, 20000, 1);
        x.debt(2, 300, 0);
        x.debt(3, 50, 3);
    }

    static EstateDesk withAFactBehindTheSettling() {
        EstateDesk x = settled();
        x.debt(2, 301, 0);
        return x;
    }

    static EstateDesk inShortage() {
        EstateDesk x = settled();
        x.debt(40, MOST_CENTS, 0);
        x.settle();
        return x;
    }

    static EstateDesk closed() {
        EstateDesk x = settled();
        x.close();
        return x;
    }

    /**
     * All 40 persons, assets, debts and clauses, and all 4 ranks of each clause, told in 321 calls; then settled. The persons 31 to
     * 40 died, the last of them on the testator's day or before; the clauses are gifts, legacies out of funds, annuities and residue
     * shares, ten of each.
     */
    static EstateDesk full() {
        EstateDesk x = new EstateDesk();
        x.testator(95);
        for (int number = 1; number <= MOST; number++) {
            x.person(number, number <= 30 ? 0 : 131 - number);
            x.asset(number, 1000 * number, number > 10);
            x.debt(number, 100 * number, number % 3 == 0 ? number : 0);
            writeAClause(x, number);
            for (int rank = 1; rank <= RANKS; rank++) {
                x.taker(number, rank, (number + 30 + rank) % MOST + 1);
            }
        }
        x.settle();
        return x;
    }

    private static void writeAClause(EstateDesk x, int number) {
        if (number <= 10) {
            x.gift(number, number);
        } else if (number <= 20) {
            x.legacy(number, 900 * number, number);
        } else if (number <= 30) {
            x.annuity(number, number, 2 * number);
        } else {
            x.residue(number, number);
        }
    }
}
