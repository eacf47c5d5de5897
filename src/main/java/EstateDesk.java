import java.util.Arrays;

/** An executor's office; ../shared/DOC.md says what each call promises. */
public final class EstateDesk {
    public static final int NONE = -1;

    // Persons, assets, debts and clauses all bear the numbers 1 to MOST; rows keep a place 0, so that a number is its own
    // index and 0 can stand for the heirs at law, nobody, or no asset.
    private static final int MOST = 40;
    private static final int RANKS = 4;
    private static final int LAST_DAY = 100000;
    private static final long MOST_CENTS = 1000000000000L;
    private static final long MOST_YEARLY = 1000000000L;
    private static final int LAST_AGE = 99;
    private static final int MOST_PARTS = 1000;

    private final Persons persons = new Persons();
    private final Assets assets = new Assets();
    private final Clauses clauses = new Clauses();
    private final Debts debts = new Debts();
    private final Settling settling;
    private boolean settled;
    private boolean settledSinceLastFact;
    private boolean closed;

    public EstateDesk() {
        settling = new Settling(persons, assets, clauses, debts);
    }

    public void testator(int day) throws IllegalArgumentException, IllegalStateException {
        requireWithin(day, 1, LAST_DAY);
        requireOpen();
        persons.testatorDay = day;
        noteFact();
    }

    public void person(int id, int day) throws IllegalArgumentException, IllegalStateException {
        requireWithin(id, 1, MOST);
        requireWithin(day, 0, LAST_DAY);
        requireOpen();
        persons.diedOn[id] = day;
        noteFact();
    }

    public void asset(int id, long cents, boolean fund) throws IllegalArgumentException, IllegalStateException {
        requireWithin(id, 1, MOST);
        requireWithin(cents, 0, MOST_CENTS);
        requireOpen();
        requireState(!assets.known[id]);
        assets.known[id] = true;
        assets.value[id] = cents;
        assets.fund[id] = fund;
        noteFact();
    }

    public long revalue(int id, long cents) throws IllegalArgumentException, IllegalStateException {
        requireAsset(id);
        requireWithin(cents, 0, MOST_CENTS);
        requireOpen();
        long before = assets.value[id];
        assets.value[id] = cents;
        noteFact();
        return before;
    }

    public void gone(int id) throws IllegalArgumentException, IllegalStateException {
        requireAsset(id);
        requireOpen();
        assets.gone[id] = true;
        noteFact();
    }

    public void gift(int clause, int asset) throws IllegalArgumentException, IllegalStateException {
        requireWithin(clause, 1, MOST);
        requireAsset(asset);
        requireOpen();
        requireState(!clauses.anotherHas(clause, asset));
        clauses.write(clause, Clauses.GIFT, 0, asset);
        noteFact();
    }

    public void legacy(int clause, long cents, int asset) throws IllegalArgumentException, IllegalStateException {
        requireWithin(clause, 1, MOST);
        requireWithin(cents, 0, MOST_CENTS);
        requireAssetOrNone(asset);
        requireArgument(asset == 0 || assets.fund[asset]);
        requireOpen();
        requireState(!clauses.anotherGives(clause, asset));
        clauses.write(clause, Clauses.LEGACY, cents, asset);
        noteFact();
    }

    public void annuity(int clause, long yearly, int age) throws IllegalArgumentException, IllegalStateException {
        requireWithin(clause, 1, MOST);
        requireWithin(yearly, 0, MOST_YEARLY);
        requireWithin(age, 0, LAST_AGE);
        requireOpen();
        clauses.write(clause, Clauses.ANNUITY, annuityValue(yearly, age), 0);
        noteFact();
    }

    public void residue(int clause, int parts) throws IllegalArgumentException, IllegalStateException {
        requireWithin(clause, 1, MOST);
        requireWithin(parts, 1, MOST_PARTS);
        requireOpen();
        clauses.write(clause, Clauses.RESIDUE, parts, 0);
        noteFact();
    }

    public void strike(int clause) throws IllegalArgumentException, IllegalStateException {
        requireWithin(clause, 1, MOST);
        requireOpen();
        clauses.write(clause, Clauses.UNWRITTEN, 0, 0);
        noteFact();
    }

    public void taker(int clause, int rank, int person) throws IllegalArgumentException, IllegalStateException {
        requireWithin(clause, 1, MOST);
        requireWithin(rank, 1, RANKS);
        requireWithin(person, 0, MOST);
        requireOpen();
        clauses.named[clause][rank] = person;
        noteFact();
    }

    public void charge(int clause, boolean stays) throws IllegalArgumentException, IllegalStateException {
        requireWithin(clause, 1, MOST);
        requireArgument(clauses.kind[clause] == Clauses.GIFT);
        requireOpen();
        clauses.debtsStay[clause] = stays;
        noteFact();
    }

    public void debt(int id, long cents, int asset) throws IllegalArgumentException, IllegalStateException {
        requireWithin(id, 1, MOST);
        requireWithin(cents, 0, MOST_CENTS);
        requireAssetOrNone(asset);
        requireOpen();
        debts.cents[id] = cents;
        debts.asset[id] = asset;
        noteFact();
    }

    public long settle() throws IllegalStateException {
        requireState(persons.testatorDay > 0);
        settling.run();
        settled = true;
        settledSinceLastFact = true;
        return settling.shortage;
    }

    public long gets(int person, int what) throws IllegalArgumentException, IllegalStateException {
        requireWithin(person, 0, MOST);
        requireWithin(what, 0, 2);
        requireState(settled);
        switch (what) {
            case 0: return persons.getsAssets[person];
            case 1: return persons.getsCents[person];
            default: return persons.owes[person];
        }
    }

    public int assetTo(int asset) throws IllegalArgumentException, IllegalStateException {
        requireWithin(asset, 1, MOST);
        requireState(settled);
        return assets.holder[asset];
    }

    public int clauseState(int clause) throws IllegalArgumentException, IllegalStateException {
        requireWithin(clause, 1, MOST);
        requireState(settled);
        return clauses.state[clause];
    }

    public long told(int clause, int what) throws IllegalArgumentException, IllegalStateException {
        requireWithin(clause, 1, MOST);
        requireWithin(what, 0, 4);
        requireState(settled);
        switch (what) {
            case 0: return clauses.worthInAll(clause);
            case 1: return clauses.bears[clause];
            case 2: return clauses.drawn[clause];
            case 3: return clauses.getsCents[clause];
            default: return clauses.goesTo[clause];
        }
    }

    public long paid(int debt) throws IllegalArgumentException, IllegalStateException {
        requireWithin(debt, 1, MOST);
        requireState(settled);
        return debts.paidOff[debt];
    }

    public long sum(int what) throws IllegalArgumentException, IllegalStateException {
        requireWithin(what, 0, Settling.SUMS - 1);
        requireState(settled);
        return settling.sums[what];
    }

    public void close() throws IllegalStateException {
        requireOpen();
        requireState(settledSinceLastFact);
        closed = true;
    }

    public long worth(long yearly, int age) throws IllegalArgumentException {
        requireWithin(yearly, 0, MOST_YEARLY);
        requireWithin(age, 0, LAST_AGE);
        return annuityValue(yearly, age);
    }

    private static long annuityValue(long yearly, int age) {
        long factor = 1000000;
        long factors = 0;
        for (int year = 1; year <= LAST_AGE + 1 - age; year++) {
            factor = 96 * factor / 100;
            factors += factor;
        }
        return yearly * factors / 1000000;
    }

    private static long total(long[] row) {
        long total = 0;
        for (int number = 1; number <= MOST; number++) {
            total += row[number];
        }
        return total;
    }

    private void noteFact() {
        settledSinceLastFact = false;
    }

    private void requireOpen() {
        requireState(!closed);
    }

    private void requireAsset(int id) {
        requireWithin(id, 1, MOST);
        requireArgument(assets.known[id]);
    }

    private void requireAssetOrNone(int id) {
        if (id != 0) {
            requireAsset(id);
        }
    }

    private static void requireWithin(long number, long least, long greatest) {
        requireArgument(number >= least && number <= greatest);
    }

    private static void requireArgument(boolean holds) {
        if (!holds) {
            throw new IllegalArgumentException();
        }
    }

    private static void requireState(boolean holds) {
        if (!holds) {
            throw new IllegalStateException();
        }
    }

    private static final class Persons {
        // 0 stands for a day that was not told: the testator's is missing, a person is living.
        private int testatorDay;
        private final int[] diedOn = new int[MOST + 1];

        // By the last settling.
        private final long[] getsAssets = new long[MOST + 1];
        private final long[] getsCents = new long[MOST + 1];
        private final long[] owes = new long[MOST + 1];

        boolean outlived(int person) {
            return diedOn[person] == 0 || diedOn[person] > testatorDay;
        }

        void forgetSettling() {
            Arrays.fill(getsAssets, 0);
            Arrays.fill(getsCents, 0);
            Arrays.fill(owes, 0);
        }
    }

    private static final class Assets {
        private final boolean[] known = new boolean[MOST + 1];
        private final long[] value = new long[MOST + 1];
        private final boolean[] fund = new boolean[MOST + 1];
        private final boolean[] gone = new boolean[MOST + 1];

        // By the last settling. No asset is in a gift and in a legacy too, so one row serves what own debts leave of a
        // given asset and what drawn parts leave of a fund.
        private final long[] left = new long[MOST + 1];
        private final int[] givenBy = new int[MOST + 1];
        private final int[] holder = new int[MOST + 1];

        boolean isThere(int asset) {
            return known[asset] && !gone[asset];
        }

        void forgetSettling() {
            for (int asset = 1; asset <= MOST; asset++) {
                left[asset] = isThere(asset) ? value[asset] : 0;
            }
            Arrays.fill(givenBy, 0);
            Arrays.fill(holder, NONE);
        }

        /** Place 0 stands for no asset: nothing is ever left there, so nothing comes out of it. */
        long takeOut(int asset, long wanted) {
            long taken = Math.min(wanted, left[asset]);
            left[asset] -= taken;
            return taken;
        }
    }

    private static final class Clauses {
        private static final int UNWRITTEN = 0;
        private static final int GIFT = 1;
        private static final int LEGACY = 2;
        private static final int ANNUITY = 3;
        private static final int RESIDUE = 4;

        private static final int GOOD = 0;
        private static final int LAPSED = 1;
        private static final int FAILED = 2;
        private static final int ABATED = 3;

        private final int[] kind = new int[MOST + 1];
        // A legacy's cents, an annuity's value or a residue clause's parts.
        private final long[] amount = new long[MOST + 1];
        private final int[] asset = new int[MOST + 1];
        private final boolean[] debtsStay = new boolean[MOST + 1];
        private final int[][] named = new int[MOST + 1][RANKS + 1];

        // By the last settling; all but the state are 0 for a clause that is not good.
        private final int[] state = new int[MOST + 1];
        private final int[] goesTo = new int[MOST + 1];
        private final long[] given = new long[MOST + 1];
        private final long[] drawn = new long[MOST + 1];
        private final long[] general = new long[MOST + 1];
        private final long[] residueParts = new long[MOST + 1];
        private final long[] bears = new long[MOST + 1];
        private final long[] getsCents = new long[MOST + 1];

        void write(int clause, int newKind, long newAmount, int newAsset) {
            kind[clause] = newKind;
            amount[clause] = newAmount;
            asset[clause] = newAsset;
            debtsStay[clause] = true;
        }

        boolean anotherHas(int clause, int wanted) {
            for (int other = 1; other <= MOST; other++) {
                if (other != clause && asset[other] == wanted) {
                    return true;
                }
            }
            return false;
        }

        boolean anotherGives(int clause, int wanted) {
            for (int other = 1; other <= MOST; other++) {
                if (other != clause && kind[other] == GIFT && asset[other] == wanted) {
                    return true;
                }
            }
            return false;
        }

        long worthInAll(int clause) {
            return given[clause] + drawn[clause] + general[clause];
        }

        void forgetSettling() {
            Arrays.fill(state, NONE);
            Arrays.fill(goesTo, 0);
            Arrays.fill(given, 0);
            Arrays.fill(drawn, 0);
            Arrays.fill(general, 0);
            Arrays.fill(residueParts, 0);
            Arrays.fill(bears, 0);
            Arrays.fill(getsCents, 0);
        }
    }

    private static final class Debts {
        // A debt that was never told is like one of 0 cents: it weighs nothing and nothing is paid of it.
        private final long[] cents = new long[MOST + 1];
        private final int[] asset = new int[MOST + 1];

        // By the last settling.
        private final long[] ordinary = new long[MOST + 1];
        private final long[] paidOff = new long[MOST + 1];
    }

    private static final class Split {
        private static final long BASE = 1000;

        private final long[] share = new long[MOST + 1];
        private final long[] rest = new long[MOST + 1];

        void among(long[] weights, long amount) {
            long whole = total(weights);
            if (whole <= 0 || amount <= 0) {
                Arrays.fill(share, 0);
                return;
            }
            long lacking = amount;
            for (int number = 1; number <= MOST; number++) {
                cut(number, amount, weights[number], whole);
                lacking -= share[number];
            }
            for (int more = 0; more < lacking && more < MOST; more++) {
                int number = greatestRest();
                share[number]++;
                // Below every rest, so that nobody gets two.
                rest[number] = -1;
            }
        }

        /** Amount times weight may be beyond a long, so the weight is taken digit by digit, as in long division. */
        private void cut(int number, long amount, long weight, long whole) {
            long part = amount % whole;
            long quotient = 0;
            long remainder = 0;
            for (long unit = MOST_CENTS; unit > 0; unit /= BASE) {
                remainder = remainder * BASE + part * (weight / unit % BASE);
                quotient = quotient * BASE + remainder / whole;
                remainder %= whole;
            }
            share[number] = amount / whole * weight + quotient;
            rest[number] = remainder;
        }

        private int greatestRest() {
            int greatest = 1;
            for (int number = 2; number <= MOST; number++) {
                if (rest[number] > rest[greatest]) {
                    greatest = number;
                }
            }
            return greatest;
        }
    }

    /** One settling after the other, each in the rows that the one before it used. */
    private static final class Settling {
        private static final int ASSETS_THERE = 0;
        private static final int DEBTS_PAID = 1;
        private static final int T = 2;
        private static final int D = 3;
        private static final int G = 4;
        private static final int N = 5;
        private static final int S = 6;
        private static final int RESIDUE = 7;
        private static final int SUMS = 8;

        private final Persons persons;
        private final Assets assets;
        private final Clauses clauses;
        private final Debts debts;
        private final Split split = new Split();
        private final long[] sums = new long[SUMS];
        private long shortage;

        Settling(Persons persons, Assets assets, Clauses clauses, Debts debts) {
            this.persons = persons;
            this.assets = assets;
            this.clauses = clauses;
            this.debts = debts;
        }

        void run() {
            persons.forgetSettling();
            assets.forgetSettling();
            clauses.forgetSettling();
            judgeClauses();
            divideDebts();
            valueClauses();
            addUp();
            long means = sums[T] + sums[N] + sums[S];
            shortage = Math.max(0, sums[D] - means);
            if (shortage > 0) {
                payInProportion(means);
            } else {
                abateByClass();
                shareResidue();
                handOut();
            }
            sums[DEBTS_PAID] = total(debts.paidOff);
        }

        private void judgeClauses() {
            for (int clause = 1; clause <= MOST; clause++) {
                if (clauses.kind[clause] != Clauses.UNWRITTEN) {
                    judge(clause, firstWhoOutlived(clauses.named[clause]));
                }
            }
        }

        private void judge(int clause, int person) {
            boolean isGift = clauses.kind[clause] == Clauses.GIFT;
            int asset = clauses.asset[clause];
            if (person == 0) {
                clauses.state[clause] = Clauses.LAPSED;
            } else if (isGift && assets.gone[asset]) {
                clauses.state[clause] = Clauses.FAILED;
            } else {
                clauses.state[clause] = Clauses.GOOD;
                clauses.goesTo[clause] = person;
                if (isGift) {
                    assets.givenBy[asset] = clause;
                }
            }
        }

        private int firstWhoOutlived(int[] ranks) {
            for (int rank = 1; rank <= RANKS; rank++) {
                if (ranks[rank] != 0 && persons.outlived(ranks[rank])) {
                    return ranks[rank];
                }
            }
            return 0;
        }

        /** All is paid at first; a shortage takes back what cannot be. */
        private void divideDebts() {
            for (int debt = 1; debt <= MOST; debt++) {
                long cents = debts.cents[debt];
                int gift = assets.givenBy[debts.asset[debt]];
                boolean stays = gift != 0 && clauses.debtsStay[gift];
                long own = stays ? assets.takeOut(debts.asset[debt], cents) : 0;
                debts.ordinary[debt] = cents - own;
                debts.paidOff[debt] = cents;
            }
        }

        private void valueClauses() {
            for (int clause = 1; clause <= MOST; clause++) {
                if (clauses.state[clause] == Clauses.GOOD) {
                    valueGood(clause);
                }
            }
        }

        private void valueGood(int clause) {
            int asset = clauses.asset[clause];
            long amount = clauses.amount[clause];
            switch (clauses.kind[clause]) {
                case Clauses.GIFT:
                    clauses.given[clause] = assets.left[asset];
                    break;
                case Clauses.RESIDUE:
                    clauses.residueParts[clause] = amount;
                    break;
                default:
                    clauses.drawn[clause] = assets.takeOut(asset, amount);
                    clauses.general[clause] = amount - clauses.drawn[clause];
                    break;
            }
        }

        private void addUp() {
            sums[ASSETS_THERE] = 0;
            sums[T] = 0;
            for (int asset = 1; asset <= MOST; asset++) {
                if (assets.isThere(asset)) {
                    sums[ASSETS_THERE] += assets.value[asset];
                    sums[T] += assets.givenBy[asset] == 0 ? assets.left[asset] : 0;
                }
            }
            sums[D] = total(debts.ordinary);
            sums[G] = total(clauses.general);
            sums[N] = total(clauses.drawn);
            sums[S] = total(clauses.given);
            sums[RESIDUE] = Math.max(0, sums[T] - sums[D] - sums[G]);
        }

        private void payInProportion(long means) {
            split.among(debts.ordinary, means);
            for (int debt = 1; debt <= MOST; debt++) {
                debts.paidOff[debt] -= debts.ordinary[debt] - split.share[debt];
            }
            for (int clause = 1; clause <= MOST; clause++) {
                clauses.bears[clause] = clauses.worthInAll(clause);
                if (clauses.state[clause] == Clauses.GOOD) {
                    clauses.state[clause] = Clauses.ABATED;
                }
            }
        }

        private void abateByClass() {
            long forGeneral = Math.max(0, sums[T] - sums[D]);
            long unpaid = Math.max(0, sums[D] - sums[T]);
            long fromDrawn = Math.min(sums[N], unpaid);
            bear(clauses.general, sums[G] - Math.min(sums[G], forGeneral));
            bear(clauses.drawn, fromDrawn);
            bear(clauses.given, unpaid - fromDrawn);
            for (int clause = 1; clause <= MOST; clause++) {
                if (clauses.bears[clause] > 0) {
                    clauses.state[clause] = Clauses.ABATED;
                }
            }
        }

        private void bear(long[] parts, long burden) {
            split.among(parts, burden);
            for (int clause = 1; clause <= MOST; clause++) {
                clauses.bears[clause] += split.share[clause];
            }
        }

        private void shareResidue() {
            split.among(clauses.residueParts, sums[RESIDUE]);
            for (int clause = 1; clause <= MOST; clause++) {
                clauses.getsCents[clause] = split.share[clause];
            }
            if (total(clauses.residueParts) == 0) {
                persons.getsCents[0] = sums[RESIDUE];
            }
        }

        private void handOut() {
            for (int clause = 1; clause <= MOST; clause++) {
                int person = clauses.goesTo[clause];
                int asset = clauses.asset[clause];
                if (person == 0) {
                    continue;
                }
                if (clauses.kind[clause] == Clauses.GIFT) {
                    assets.holder[asset] = person;
                    persons.getsAssets[person] += assets.value[asset];
                    persons.owes[person] += assets.value[asset] - clauses.given[clause] + clauses.bears[clause];
                } else {
                    clauses.getsCents[clause] += clauses.worthInAll(clause) - clauses.bears[clause];
                    persons.getsCents[person] += clauses.getsCents[clause];
                }
            }
        }
    }
}
