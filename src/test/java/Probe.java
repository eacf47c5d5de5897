import java.util.function.LongSupplier;
import java.util.function.Supplier;

/**
 * All that a caller can find out about a desk, as one text. Every row of questions has a desk of its own, made anew, so that no
 * desk is asked more than the document's 512 calls and no row stands in another one's way.
 */
final class Probe {
    private interface Row {
        void ask(Probe answers);
    }

    private static final Row[] ROWS = {
        Probe::gets, Probe::singles, Probe::toldOfValues, Probe::toldOfTakers, Probe::settledAnewGets, Probe::settledAnewSingles,
        Probe::settledAnewToldOfValues, Probe::settledAnewToldOfTakers, Probe::assetsAndFunds, Probe::gifts, Probe::closing,
    };

    private final EstateDesk desk;
    private final StringBuilder text;

    private Probe(EstateDesk desk, StringBuilder text) {
        this.desk = desk;
        this.text = text;
    }

    static String all(Supplier<EstateDesk> maker) {
        StringBuilder text = new StringBuilder();
        for (Row row : ROWS) {
            row.ask(new Probe(maker.get(), text));
        }
        for (int rank = 1; rank <= Desks.RANKS; rank++) {
            new Probe(maker.get(), text).namedAt(rank, 1, Desks.MOST / 2);
            new Probe(maker.get(), text).namedAt(rank, Desks.MOST / 2 + 1, Desks.MOST);
        }
        return text.toString();
    }

    /** The answers by the last settling alone. */
    static String lastSettling(Supplier<EstateDesk> maker) {
        StringBuilder text = new StringBuilder();
        for (int row = 0; row < 4; row++) {
            ROWS[row].ask(new Probe(maker.get(), text));
        }
        return text.toString();
    }

    /** The first answer in which two probes are not alike, or an empty text. */
    static String difference(String before, String after) {
        String[] one = before.split("\n");
        String[] other = after.split("\n");
        for (int line = 0; line < one.length; line++) {
            if (!one[line].equals(other[line])) {
                return one[line] + " became " + other[line];
            }
        }
        return "";
    }

    private void note(String what, LongSupplier call) {
        text.append(what).append(' ').append(Check.outcome(call)).append('\n');
    }

    private void gets() {
        for (int person = 0; person <= Desks.MOST; person++) {
            for (int what = 0; what <= 2; what++) {
                int which = person;
                int of = what;
                note("gets " + person + " " + what, () -> desk.gets(which, of));
            }
        }
    }

    private void singles() {
        for (int number = 1; number <= Desks.MOST; number++) {
            int which = number;
            note("assetTo " + number, () -> desk.assetTo(which));
            note("clauseState " + number, () -> desk.clauseState(which));
            note("paid " + number, () -> desk.paid(which));
        }
        for (int what = 0; what <= 7; what++) {
            int of = what;
            note("sum " + what, () -> desk.sum(of));
        }
    }

    private void toldOfValues() {
        told(0, 2);
    }

    private void toldOfTakers() {
        told(3, 4);
    }

    private void told(int from, int to) {
        for (int clause = 1; clause <= Desks.MOST; clause++) {
            for (int what = from; what <= to; what++) {
                int which = clause;
                int of = what;
                note("told " + clause + " " + what, () -> desk.told(which, of));
            }
        }
    }

    private void settledAnewGets() {
        note("settle", desk::settle);
        gets();
    }

    private void settledAnewSingles() {
        note("settle", desk::settle);
        singles();
    }

    private void settledAnewToldOfValues() {
        note("settle", desk::settle);
        told(0, 2);
    }

    private void settledAnewToldOfTakers() {
        note("settle", desk::settle);
        told(3, 4);
    }

    /** Which assets there are, what they were worth and which of them are funds that no gift gives. */
    private void assetsAndFunds() {
        for (int asset = 1; asset <= Desks.MOST; asset++) {
            int which = asset;
            note("revalue " + asset, () -> desk.revalue(which, 7));
            note("legacy out of " + asset, () -> {
                desk.legacy(Desks.MOST, 1, which);
                return 0;
            });
        }
    }

    private void gifts() {
        for (int clause = 1; clause <= Desks.MOST; clause++) {
            int which = clause;
            note("charge " + clause, () -> {
                desk.charge(which, true);
                return 0;
            });
        }
    }

    private void closing() {
        for (int time = 1; time <= 2; time++) {
            note("close", () -> {
                desk.close();
                return 0;
            });
        }
    }

    /** Who is named at a rank, or behind it, also of numbers that are no clause: nobody at the ranks before, and all are clauses. */
    private void namedAt(int rank, int firstClause, int lastClause) {
        for (int clause = firstClause; clause <= lastClause; clause++) {
            int which = clause;
            note("residue " + clause, () -> {
                desk.residue(which, 1);
                return 0;
            });
            for (int before = 1; before < rank; before++) {
                int emptied = before;
                note("nobody at " + before, () -> {
                    desk.taker(which, emptied, 0);
                    return 0;
                });
            }
        }
        note("settle", desk::settle);
        for (int clause = firstClause; clause <= lastClause; clause++) {
            int which = clause;
            note("named at " + rank + " of " + clause, () -> desk.told(which, 4));
        }
    }
}
