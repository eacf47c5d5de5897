/** What the tests share: every answer that is not the one due is printed, and the test then ends with exit code 1. */
final class Check {
    interface Call {
        void make();
    }

    private static int wrong = 0;
    private static int made = 0;

    private Check() {
    }

    static void due(String what, long got, long want) {
        made++;
        if (got != want) {
            tell(what + " answered " + got + ", due is " + want);
        }
    }

    static void due(String what, String got, String want) {
        made++;
        if (!got.equals(want)) {
            tell(what + " answered " + got + ", due is " + want);
        }
    }

    static void passes(String what, Call call) {
        due(what, thrownBy(call), "nothing");
    }

    static void argument(String what, Call call) {
        due(what, thrownBy(call), "IllegalArgumentException");
    }

    static void state(String what, Call call) {
        due(what, thrownBy(call), "IllegalStateException");
    }

    static void end() {
        if (made == 0) {
            tell("no answer was looked at");
        }
        System.out.println(wrong == 0 ? made + " answers, all as due" : wrong + " of " + made + " answers are not as due");
        System.exit(wrong == 0 ? 0 : 1);
    }

    private static String thrownBy(Call call) {
        try {
            call.make();
            return "nothing";
        } catch (RuntimeException e) {
            return e.getClass().getSimpleName();
        }
    }

    private static void tell(String text) {
        wrong++;
        System.out.println(text);
    }
}
