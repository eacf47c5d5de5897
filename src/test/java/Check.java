import java.util.function.LongSupplier;

/** What the tests share: every answer that is not the one due is printed, and the test then ends with exit code 1. */
final class Check {
    interface Call {
        void make();
    }

    private static int wrong = 0;
    private static int made = 0;
    private static String sentence = "";

    private Check() {
    }

    /** The sentence of the document that the next answers are due by. */
    static void by(String text) {
        sentence = "[" + text + "] ";
    }

    static void due(String what, long got, long want) {
        made++;
        if (got != want) {
            tell(what + " answered " + got + ", due is " + want);
        }
    }

    static void due(String what, String got, String want) {
        made++;
        if (!got.equals(want)) {
            tell(what + " answered " + got + ", due is " + want);
        }
    }

    static void passes(String what, Call call) {
        due(what, thrownBy(call), "nothing");
    }

    static void argument(String what, Call call) {
        due(what, thrownBy(call), "IllegalArgumentException");
    }

    static void state(String what, Call call) {
        due(what, thrownBy(call), "IllegalStateException");
    }

    /** The answer as a text, or the name of the exception that came in its place. */
    static String outcome(LongSupplier call) {
        try {
            return String.valueOf(call.getAsLong());
        } catch (RuntimeException e) {
            return e.getClass().getSimpleName();
        }
    }

    static void end() {
        if (made == 0) {
            tell("no answer was looked at");
        }
        System.out.println(wrong == 0 ? made + " answers, all as due" : wrong + " of " + made + " answers are not as due");
        System.exit(wrong == 0 ? 0 : 1);
    }

    private static String thrownBy(Call call) {
        try {
            call.make();
            return "nothing";
        } catch (RuntimeException e) {
            return e.getClass().getSimpleName();
        }
    }

    private static void tell(String text) {
        wrong++;
        System.out.println(sentence + text);
    }
}
