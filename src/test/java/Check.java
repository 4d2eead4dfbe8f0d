/** Counts the answers of a test and tells those that are not the ones that are due. */
final class Check {
    private static int made = 0;
    private static int wrong = 0;

    interface Call {
        Object run();
    }

    private Check() {
    }

    static void same(String what, Object got, Object due) {
        made++;
        if (!got.equals(due)) {
            wrong++;
            System.out.println(what + " is " + got + ", due is " + due);
        }
    }

    static void holds(String what, boolean got) {
        same(what, got, true);
    }

    /** The exception that is due is of just this class, not of one below it. */
    static void fails(String what, Class<? extends RuntimeException> due, Call call) {
        Object got;
        try {
            got = call.run();
        } catch (RuntimeException e) {
            got = e.getClass();
        }
        same(what, got, due);
    }

    static void noIndex(String what, Call call) {
        fails(what, IndexOutOfBoundsException.class, call);
    }

    static void noArgument(String what, Call call) {
        fails(what, IllegalArgumentException.class, call);
    }

    static void noState(String what, Call call) {
        fails(what, IllegalStateException.class, call);
    }

    static void end() {
        if (wrong != 0 || made == 0) {
            System.out.println(wrong + " of " + made + " answers are not as due");
            System.exit(1);
        }
    }
}
