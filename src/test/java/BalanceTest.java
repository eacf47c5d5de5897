import java.util.Random;

/** What must come out even to the cent at every settling, however the parts of it are worked out. */
public final class BalanceTest {
    private static final int DESKS = 2000;
    private static final int NUMBERS = 20;
    private static final long[] MONEY = {3, 100, 100000, 1000000000000L};

    private final String name;
    private final Random random;
    private final EstateDesk desk = new EstateDesk();
    private long debts = 0;

    private BalanceTest(int number) {
        name = "desk " + number + ": ";
        random = new Random(number);
    }

    public static void main(String[] args) {
        int shortages = 0;
        for (int number = 1; number <= DESKS; number++) {
            BalanceTest test = new BalanceTest(number);
            test.tellTheWill();
            long shortage = test.desk.settle();
            test.whatThereIsGoesSomewhere();
            test.burdensAndResidueMeet(shortage);
            test.debtsArePaidButForTheShortage(shortage);
            test.takersGetWhatTheirClausesLeave();
            shortages += shortage > 0 ? 1 : 0;
        }
        boolean bothCame = shortages > DESKS / 10 && shortages < DESKS - DESKS / 10;
        Check.due("desks with a shortage and desks without one", bothCame ? 1 : 0, 1);
        Check.end();
    }

    private void tellTheWill() {
        long assetsUpTo = MONEY[random.nextInt(MONEY.length)];
        long debtsUpTo = random.nextInt(3) == 0 ? assetsUpTo : Math.max(1, assetsUpTo / 3);
        desk.testator(100);
        for (int number = 1; number <= NUMBERS; number++) {
            desk.person(number, random.nextInt(3) == 0 ? 90 + random.nextInt(20) : 0);
            desk.asset(number, upTo(assetsUpTo), number > NUMBERS / 2);
            if (random.nextInt(8) == 0) {
                desk.gone(number);
            }
            tellClause(number, assetsUpTo);
            long cents = upTo(debtsUpTo);
            desk.debt(number, cents, random.nextInt(number + 1));
            debts += cents;
        }
    }

    /** The first half of the assets are given, the funds in the other half are for legacies. */
    private void tellClause(int number, long money) {
        desk.taker(number, 1, random.nextInt(NUMBERS + 1));
        desk.taker(number, 3, random.nextInt(NUMBERS + 1));
        int kind = random.nextInt(4);
        if (kind == 0 && number <= NUMBERS / 2) {
            desk.gift(number, number);
            desk.charge(number, random.nextInt(3) > 0);
        } else if (kind <= 1) {
            boolean isOfTheWhole = number <= NUMBERS / 2 || random.nextInt(3) == 0;
            desk.legacy(number, upTo(money), isOfTheWhole ? 0 : NUMBERS / 2 + 1 + random.nextInt(number - NUMBERS / 2));
        } else if (kind == 2) {
            desk.annuity(number, upTo(Math.max(1, money / 1000)), random.nextInt(100));
        } else {
            desk.residue(number, 1 + random.nextInt(1000));
        }
    }

    private long upTo(long most) {
        return (random.nextLong() >>> 1) % (most + 1);
    }

    private long gotByAll(int what) {
        long got = 0;
        for (int person = 0; person <= NUMBERS; person++) {
            got += desk.gets(person, what);
        }
        return got;
    }

    private long toldOfAll(int what) {
        long told = 0;
        for (int clause = 1; clause <= NUMBERS; clause++) {
            told += desk.told(clause, what);
        }
        return told;
    }

    private void whatThereIsGoesSomewhere() {
        long toPersons = gotByAll(0) + gotByAll(1) - gotByAll(2);
        Check.due(name + "to persons and for debts", toPersons + desk.sum(1), desk.sum(0));
        long ownDebts = debts - desk.sum(3);
        Check.due(name + "T, N, S and own debts", desk.sum(2) + desk.sum(5) + desk.sum(6) + ownDebts, desk.sum(0));
    }

    private void burdensAndResidueMeet(long shortage) {
        long borne = toldOfAll(1);
        Check.due(name + "VALUES", toldOfAll(0), desk.sum(4) + desk.sum(5) + desk.sum(6));
        Check.due(name + "DRAWN parts", toldOfAll(2), desk.sum(5));
        if (shortage > 0) {
            Check.due(name + "all is borne", borne, toldOfAll(0));
        }
        // What clauses are not able to bear is the shortage; what is left without their bearing anything, the residue.
        Check.due(name + "borne", borne + shortage - desk.sum(7), desk.sum(4) + desk.sum(3) - desk.sum(2));
        Check.due(name + "borne, or a residue", Math.min(borne, desk.sum(7)), 0);
    }

    private void debtsArePaidButForTheShortage(long shortage) {
        long paid = 0;
        for (int debt = 1; debt <= NUMBERS; debt++) {
            paid += desk.paid(debt);
        }
        Check.due(name + "debts paid", paid, desk.sum(1));
        Check.due(name + "debts paid and the shortage", paid + shortage, debts);
    }

    private void takersGetWhatTheirClausesLeave() {
        boolean isResidueTaken = false;
        for (int clause = 1; clause <= NUMBERS; clause++) {
            long left = desk.told(clause, 0) - desk.told(clause, 1);
            Check.due(name + "borne by " + clause + " is not above its VALUE", Math.min(left, 0), 0);
            // Only a share of the residue is more than what its clause is worth, for that is 0.
            isResidueTaken = isResidueTaken || desk.told(clause, 3) > left;
        }
        long toHeirs = desk.gets(0, 1);
        Check.due(name + "cents by clauses and to the heirs at law", toldOfAll(3) + toHeirs, gotByAll(1));
        Check.due(name + "to the heirs at law", toHeirs, isResidueTaken ? 0 : desk.sum(7));
    }
}
