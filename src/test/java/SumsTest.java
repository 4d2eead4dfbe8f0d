/** Promises 18 to 21: the sums. */
public final class SumsTest {
    public static void main(String[] args) {
        promises18And19();
        promise18OfOne();
        promise20();
        promise21();
        promise21Wrong();
        Check.end();
    }

    private static void promises18And19() {
        RefreshTrader x = Memory.of("memory 1 3 50 99; ask 0 0 1; ask 0 0 2; ask 0 0 1; ask 9 0 0; ask 900 0 0;");
        Check.same("mean of none", x.meanWait(), 0.0);
        Check.same("greatest of none", x.greatestWait(), -1);
        x.pass(1);
        Check.same("mean of 0", x.meanWait(), 0.0);
        Check.same("greatest of 0", x.greatestWait(), 0);
        x.pass(1);
        Check.same("mean of 0 and 1", x.meanWait(), 0.5);
        Check.same("greatest of 0 and 1", x.greatestWait(), 1);
        x.pass(1);
        Check.same("mean of 0, 1 and 2", x.meanWait(), 1.0);
        x.pass(100);
        Check.same("mean of 0, 1, 2 and 0", x.meanWait(), 0.75);
        Check.same("greatest of 0, 1, 2 and 0", x.greatestWait(), 2);
        x.ask(0, 0);
        x.ask(0, 0);
        x.ask(0, 0);
        x.pass(3);
        Check.same("mean of seven", x.meanWait(), 6.0 / 7);
        x.undo();
        Check.same("mean of four again", x.meanWait(), 0.75);
        Memory.parse(x, "memory 1 1 4 1;");
        Check.same("mean behind a parse", x.meanWait(), 0.0);
        Check.same("greatest behind a parse", x.greatestWait(), -1);
    }

    private static void promise18OfOne() {
        RefreshTrader x = Memory.of("memory 1 2 50 99; margin 20; weak 0 0 20 0; ask 0 0 1;");
        x.pass(3);
        Check.same("urgent refreshes are ahead", x.meanWait(), 0.0);
        Check.same("none is served", x.greatestWait(), -1);
        x.set(6, 0);
        x.pass(1);
        Check.same("mean of one", x.meanWait(), 3.0);
        Check.same("greatest of one", x.greatestWait(), 3);
        Memory.parse(x, "memory 1 2 50 99; ask 0 0 1;");
        x.pass(1);
        Check.same("the mean of the new memory", x.meanWait(), 0.0);
    }

    private static void promise20() {
        RefreshTrader x = Memory.of("memory 4 4 9 2; ahead 3; slots 2; hot 2; gain 2; trading; ask 0 0 0; ask 0 0 1;");
        Check.holds("whole at first", x.isWhole());
        for (int i = 0; i < 20; i++) {
            x.pass(3);
            Check.holds("whole behind pass", x.isWhole());
        }
        x.set(1, 8);
        x.trade(1, 2);
        Check.holds("whole behind trade", x.isWhole());
        x.undo();
        Check.holds("whole behind undo", x.isWhole());
    }

    private static void sums(RefreshTrader x, int... due) {
        for (int what = 0; what < due.length; what++) {
            Check.same("account " + what, x.account(what), due[what]);
        }
    }

    private static void promise21() {
        RefreshTrader x = Memory.of("memory 3 1 99 2; trading; hot 1; gain 3; ask 0 0 0; ask 1 2 0;");
        sums(x, 0, 0, 0, 0, 0, 0);
        x.pass(3);
        sums(x, 3, 1, 0, 0, 2, 2);
        x.set(3, 99);
        x.trade(1, 0);
        sums(x, 3, 1, 0, 0, 3, 2);
        RefreshTrader y = Memory.of("memory 1 3 4 99; margin 0;");
        y.pass(7);
        sums(y, 0, 3, 3, 2, 0, 0);
        y.pass(93);
        Check.same("a debt of the tick 99", y.account(0), 1);
        Memory.parse(y, "memory 1 1 4 1;");
        sums(y, 0, 0, 0, 0, 0, 0);
    }

    private static void promise21Wrong() {
        RefreshTrader x = new RefreshTrader();
        Check.noArgument("account -1", () -> x.account(-1));
        Check.noArgument("account 6", () -> x.account(6));
        Check.noArgument("the greatest account", () -> x.account(Integer.MAX_VALUE));
    }
}
