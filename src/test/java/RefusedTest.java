/**
 * Arguments in and out of range, for each call that throws an exception: which exception is due, which
 * one of several goes first, and that a call that is refused changes nothing.
 */
public final class RefusedTest {
    private static final int[] NUMBERS = {Integer.MIN_VALUE, Integer.MIN_VALUE + 1, -1_000_000, -256, -2, -1, 0, 1, 2,
        3, 4, 5, 6, 7, 8, 9, 10, 11, 12, 15, 16, 17, 20, 21, 39, 40, 41, 64, 98, 99, 100, 199, 200, 201, 256, 299, 300,
        301, 600, 601, 999, 1000, 2000, 2001, 65536, Integer.MAX_VALUE - 1, Integer.MAX_VALUE};
    private static final Object INDEX = IndexOutOfBoundsException.class;
    private static final Object ARGUMENT = IllegalArgumentException.class;
    private static final Object STATE = IllegalStateException.class;
    private static final String NOTHING = "no exception";

    private final String name;
    private final RefreshTrader x;
    private final int banks;
    private final int rows;
    private final int requests;
    private final String before;

    private RefusedTest(String name, RefreshTrader x) {
        this.name = name;
        this.x = x;
        banks = x.size(0);
        rows = x.size(1);
        requests = x.size(5);
        before = Picture.of(x);
    }

    public static void main(String[] args) {
        new RefusedTest("a new object", new RefreshTrader()).sweep();
        new RefusedTest("a small memory", small()).sweep();
        new RefusedTest("a great memory at its end", great()).sweep();
        Check.end();
    }

    private static RefreshTrader small() {
        RefreshTrader x = Memory.of("memory 2 3 9 4; hot 3; gain 3; ahead 1; trading; ask 2 1 1; ask 30 0 2;");
        x.pass(5);
        x.ask(0, 1);
        return x;
    }

    /** The time is 2000, there are 40 requests, and ten changes can be undone. */
    private static RefreshTrader great() {
        RefreshTrader x = Memory.of("memory 4 16 999 9; ahead 8; slots 4;" + "ask 999 3 15;".repeat(20));
        for (int i = 0; i < 20; i++) {
            x.pass(100);
            x.ask(i % 4, i % 16);
        }
        return x;
    }

    private void sweep() {
        for (int a : NUMBERS) {
            sweepOne(a);
            for (int b : NUMBERS) {
                sweepTwo(a, b);
                for (int c : NUMBERS) {
                    due("row", INDEX, ARGUMENT, isBank(a) && isRow(b), in(c, 0, 8), () -> x.row(a, b, c), a, b, c);
                }
            }
        }
        Check.same(name + ": nothing changes", Picture.of(x), before);
        sweepChanges();
    }

    private void sweepOne(int a) {
        due("size", INDEX, ARGUMENT, true, in(a, 0, 10), () -> x.size(a), a);
        due("setting", INDEX, ARGUMENT, true, in(a, 0, 6), () -> x.setting(a), a);
        due("account", INDEX, ARGUMENT, true, in(a, 0, 5), () -> x.account(a), a);
        due("lossesAhead", INDEX, ARGUMENT, true, in(a, 1, 300), () -> x.lossesAhead(a), a);
        due("gainOfTrading", INDEX, ARGUMENT, true, in(a, 1, 300), () -> x.gainOfTrading(a), a);
        due("waitOf", INDEX, ARGUMENT, isRequest(a), true, () -> x.waitOf(a), a);
        due("restoreSnapshot", INDEX, STATE, in(a, 0, 1), false, () -> x.restoreSnapshot(a), a);
        if (!in(a, 0, 1)) {
            due("saveSnapshot", INDEX, ARGUMENT, false, true, () -> x.saveSnapshot(a), a);
        }
        if (a != 0) {
            due("parse", INDEX, ARGUMENT, true, false, () -> x.parse(a), a);
        }
    }

    private void sweepTwo(int a, int b) {
        due("bank", INDEX, ARGUMENT, isBank(a), in(b, 0, 8), () -> x.bank(a, b), a, b);
        due("request", INDEX, ARGUMENT, isRequest(a), in(b, 0, 4), () -> x.request(a, b), a, b);
        due("waiting", INDEX, ARGUMENT, isBank(a), true, () -> x.waiting(a, b), a, b);
        due("next", INDEX, ARGUMENT, isBank(a), in(b, 0, 3), () -> x.next(a, b), a, b);
        boolean isRight = in(a, 0, 6) && in(b, 1, 300);
        due("leastSetting", INDEX, ARGUMENT, true, isRight, () -> x.leastSetting(a, b), a, b);
    }

    /** Those that change something are undone, as far as the history reaches; then the state is as before. */
    private void sweepChanges() {
        x.saveSnapshot(0);
        String start = without(Picture.of(x));
        for (int a : NUMBERS) {
            change("pass", in(a, 1, 200) ? x.size(4) + a <= 2000 ? NOTHING : STATE : ARGUMENT, () -> x.pass(a), a);
            for (int b : NUMBERS) {
                boolean isPlace = isBank(a) && isRow(b);
                change("ask", !isPlace ? INDEX : requests < 40 ? NOTHING : STATE, () -> x.ask(a, b), a, b);
                boolean isValue = in(a, 0, 6) && in(b, Texts.LEAST[in(a, 0, 6) ? a : 0],
                        Texts.GREATEST[in(a, 0, 6) ? a : 0]);
                change("set", isValue ? NOTHING : ARGUMENT, () -> x.set(a, b), a, b);
                change("trade", dueOfTrade(a, b), () -> x.trade(a, b), a, b);
            }
        }
        Check.same(name + ": all is undone", without(Picture.of(x)), start);
    }

    private Object dueOfTrade(int a, int b) {
        if (!isBank(a) || !isBank(b)) {
            return INDEX;
        }
        if (a == b) {
            return ARGUMENT;
        }
        boolean isHot = x.bank(b, 1) >= x.setting(3);
        boolean isFull = x.bank(b, 0) >= x.setting(1);
        return isHot || isFull || x.bank(a, 0) <= -x.setting(2) ? STATE : NOTHING;
    }

    private static String without(String picture) {
        return picture.replaceAll("undo \\d+", "");
    }

    private static boolean in(int a, int least, int greatest) {
        return a >= least && a <= greatest;
    }

    private boolean isBank(int bank) {
        return in(bank, 0, banks - 1);
    }

    private boolean isRow(int row) {
        return in(row, 0, rows - 1);
    }

    private boolean isRequest(int request) {
        return in(request, 0, requests - 1);
    }

    /** What is due is one exception if the first condition fails, another one if only the second does. */
    private void due(String call, Object first, Object second, boolean isFirst, boolean isSecond, Check.Call run,
            int... arguments) {
        Object due = !isFirst ? first : !isSecond ? second : NOTHING;
        compare(call, due, answer(run), arguments);
    }

    private void change(String call, Object due, Check.Call run, int... arguments) {
        int changes = x.size(10);
        int time = x.size(4);
        Object got = answer(run);
        compare(call, due, got, arguments);
        if (due.equals(NOTHING)) {
            Check.holds("a change counts", x.size(10) == Math.min(10, changes + 1));
            x.undo();
        } else {
            Check.same("no change behind an exception", x.size(10), changes);
            Check.same("no time behind an exception", x.size(4), time);
        }
    }

    private static Object answer(Check.Call run) {
        try {
            run.run();
            return NOTHING;
        } catch (RuntimeException e) {
            return e.getClass();
        }
    }

    private void compare(String call, Object due, Object got, int... arguments) {
        if (!got.equals(due)) {
            Check.same(name + ": " + call + java.util.Arrays.toString(arguments), got, due);
        }
    }
}
