/** Promises 22 to 26: the changes. */
public final class ChangesTest {
    public static void main(String[] args) {
        promise22();
        promise22Limits();
        promise23();
        promise23Limits();
        promise24();
        promise24Refused();
        promise24Wrong();
        promise25();
        promise25Effect();
        promise26();
        exceptionsChangeNothing();
        Check.end();
    }

    private static void promise22() {
        RefreshTrader x = Memory.of("memory 1 3 4 99; margin 0;");
        Check.same("losses of 4 ticks", x.pass(4), 0);
        Check.same("the time", x.size(4), 4);
        Check.same("losses of the next tick", x.pass(1), 2);
        Check.same("losses are those of the ticks alone", x.pass(1), 0);
        RefreshTrader whole = Memory.of("memory 2 4 9 3; trading; hot 2; gain 3; ask 3 1 1; ask 3 1 2; ask 8 0 1;");
        RefreshTrader parts = Memory.of("memory 2 4 9 3; trading; hot 2; gain 3; ask 3 1 1; ask 3 1 2; ask 8 0 1;");
        int losses = 0;
        for (int i = 0; i < 60; i++) {
            losses += parts.pass(1);
        }
        Check.same("losses of 60 ticks", whole.pass(60), losses);
        Check.same("60 ticks at once", Picture.of(whole).replace("undo 1 ", "undo 10 "), Picture.of(parts));
    }

    private static void promise22Limits() {
        RefreshTrader x = Memory.of("memory 1 1 4 1;");
        Check.noArgument("0 ticks", () -> x.pass(0));
        Check.noArgument("-1 ticks", () -> x.pass(-1));
        Check.noArgument("201 ticks", () -> x.pass(201));
        Check.noArgument("the most ticks", () -> x.pass(Integer.MAX_VALUE));
        for (int i = 0; i < 9; i++) {
            x.pass(200);
        }
        x.pass(199);
        Check.noState("2 ticks from 1999", () -> x.pass(2));
        Check.noArgument("201 ticks from 1999", () -> x.pass(201));
        x.pass(1);
        Check.same("the last time", x.size(4), 2000);
        Check.noState("1 tick from 2000", () -> x.pass(1));
        Check.noState("200 ticks from 2000", () -> x.pass(200));
        Check.noArgument("0 ticks from 2000", () -> x.pass(0));
        Check.same("what would be from 2000", x.next(0, 0), 5);
        x.undo();
        Check.same("200 ticks from 1800 need an undo", x.size(4), 1999);
    }

    private static void promise23() {
        RefreshTrader x = Memory.of("memory 2 3 50 99; ask 0 1 1; ask 5 1 2;");
        Check.same("number", x.ask(1, 0), 2);
        Check.same("number then", x.ask(0, 2), 3);
        Check.same("waits at once", x.waiting(1, 0), 2);
        Check.same("requests that wait", x.size(6), 2);
        x.pass(1);
        Check.same("served first", x.request(2, 4), 0);
        Check.same("that of the text then", x.waiting(1, 0), 0);
        Check.same("the other bank's", x.request(3, 4), 0);
        Check.same("requests of a bank", x.bank(1, 2), 1);
    }

    private static void promise23Limits() {
        RefreshTrader x = Memory.of("memory 2 3 50 99; ask 0 1 1; ask 5 1 2;");
        for (int request = 2; request < 40; request++) {
            Check.same("number", x.ask(request % 2, request % 3), request);
        }
        Check.same("of 40 requests 38 wait", x.size(6), 38);
        Check.same("half of them for bank 1", x.bank(1, 2), 19);
        Check.same("the last of its line", x.waiting(1, 18), 39);
        Check.noState("a request 41", () -> x.ask(0, 0));
        Check.noIndex("bank ahead of the number", () -> x.ask(2, 0));
        Check.noIndex("bank -1", () -> x.ask(-1, 0));
        Check.noIndex("row 3", () -> x.ask(0, 3));
        Check.noIndex("row -1", () -> x.ask(0, -1));
        x.pass(100);
        Check.same("all are served", x.account(5), 40);
        Check.noState("a request 41 behind all", () -> x.ask(0, 0));
        x.undo();
        x.undo();
        Check.same("a request 40 again", x.ask(1, 1), 39);
    }

    private static void promise24() {
        RefreshTrader x = Memory.of("memory 3 1 50 99; ahead 2; most 2;");
        Check.same("the debt of the other", x.trade(0, 2), 1);
        Check.same("the debt of the other then", x.trade(0, 2), 2);
        Check.noState("the first is at -ahead", () -> x.trade(0, 1));
        Check.noState("the other is at most", () -> x.trade(1, 2));
        Check.same("debt of the first", x.bank(0, 0), -2);
        Check.same("given", x.bank(0, 5), 2);
        Check.same("taken", x.bank(2, 6), 2);
        Check.same("traded", x.account(4), 2);
        Check.same("back again", x.trade(2, 0), -1);
        Check.same("taken by the first", x.bank(0, 6), 1);
        Check.holds("whole", x.isWhole());
    }

    private static void promise24Refused() {
        RefreshTrader x = Memory.of("memory 2 1 50 99; ahead 2; hot 3; gain 3; ask 0 1 0;");
        x.set(2, 8);
        x.pass(1);
        Check.noState("to a hot bank", () -> x.trade(0, 1));
        Check.same("from a hot bank", x.trade(1, 0), 0);
        x.pass(1);
        Check.same("to a bank that is not hot any more", x.trade(0, 1), 0);
        RefreshTrader none = Memory.of("memory 2 1 50 99;");
        Check.noState("no debt and nothing ahead", () -> none.trade(0, 1));
        none.set(2, 1);
        Check.same("one ahead", none.trade(0, 1), 1);
        none.set(1, 1);
        Check.noState("the other has most", () -> none.trade(0, 1));
        none.set(2, 8);
        Check.noState("the other still has most", () -> none.trade(0, 1));
        RefreshTrader above = Memory.of("memory 2 1 50 99; ahead 8;");
        above.trade(0, 1);
        above.trade(0, 1);
        above.set(1, 1);
        Check.noState("the other has more than most", () -> above.trade(0, 1));
        above.set(2, 1);
        Check.noState("the first has less than -ahead", () -> above.trade(0, 1));
    }

    private static void promise24Wrong() {
        RefreshTrader x = Memory.of("memory 2 1 50 99; ahead 2;");
        Check.noIndex("bank -1", () -> x.trade(-1, 0));
        Check.noIndex("bank 2", () -> x.trade(2, 0));
        Check.noIndex("other -1", () -> x.trade(0, -1));
        Check.noIndex("other 2", () -> x.trade(0, 2));
        Check.noIndex("a missing bank with itself", () -> x.trade(2, 2));
        Check.noArgument("a bank with itself", () -> x.trade(1, 1));
        x.set(2, 0);
        Check.noArgument("a bank with itself, without debt", () -> x.trade(0, 0));
    }

    private static void promise25() {
        int[] least = {1, 1, 0, 1, 1, 1, 0};
        int[] greatest = {4, 8, 8, 99, 20, 99, 20};
        int[] first = {1, 4, 0, 99, 1, 20, 2};
        RefreshTrader x = Memory.of("memory 1 1 4 1;");
        for (int w = 0; w < 7; w++) {
            int what = w;
            Check.same("previous value", x.set(what, least[what]), first[what]);
            Check.same("value", x.setting(what), least[what]);
            Check.same("previous value then", x.set(what, greatest[what]), least[what]);
            Check.same("value then", x.setting(what), greatest[what]);
            Check.noArgument("too little", () -> x.set(what, least[what] - 1));
            Check.noArgument("too much", () -> x.set(what, greatest[what] + 1));
            Check.noArgument("the least", () -> x.set(what, Integer.MIN_VALUE));
            Check.same("value behind exceptions", x.setting(what), greatest[what]);
        }
        Check.noArgument("what -1", () -> x.set(-1, 1));
        Check.noArgument("what 7", () -> x.set(7, 1));
    }

    private static void promise25Effect() {
        RefreshTrader x = Memory.of("memory 1 1 8 99; gain 4; ask 0 0 0;");
        x.pass(1);
        Check.same("cool", x.row(0, 0, 1), 8);
        x.set(3, 4);
        Check.same("hot at once", x.row(0, 0, 1), 4);
        Check.same("hot banks", x.size(8), 1);
        x.set(3, 5);
        Check.same("cool again", x.row(0, 0, 1), 8);
        x.set(6, 20);
        Check.same("urgent by the margin", x.next(0, 0), 1);
        x.set(6, 0);
        x.set(2, 1);
        Check.same("ahead", x.next(0, 0), 6);
    }

    private static void promise26() {
        RefreshTrader x = Memory.of("memory 2 1 50 9;");
        Check.same("it was not so", x.setTrading(true), false);
        Check.same("it is so", x.size(9), 1);
        Check.same("it was so", x.setTrading(true), true);
        Check.same("it was so still", x.setTrading(false), true);
        Check.same("it is not so", x.size(9), 0);
        Check.same("it was so by the text", Memory.of("memory 2 1 50 9; trading;").setTrading(false), true);
        RefreshTrader y = Memory.of("memory 3 1 99 2; hot 1; gain 3; ask 0 0 0; ask 1 2 0;");
        y.setTrading(true);
        y.pass(3);
        Check.same("debts are traded", y.account(4), 2);
    }

    private static void exceptionsChangeNothing() {
        RefreshTrader x = Memory.of("memory 2 2 9 2; hot 2; gain 2; ask 3 0 0; ask 4 0 1; ask 5 1 1;");
        x.pass(4);
        String before = Picture.of(x);
        Check.noArgument("pass", () -> x.pass(0));
        Check.noIndex("ask", () -> x.ask(0, 2));
        Check.noIndex("trade", () -> x.trade(0, 2));
        Check.noArgument("trade with itself", () -> x.trade(0, 0));
        Check.noState("trade that is refused", () -> x.trade(1, 0));
        Check.noArgument("set", () -> x.set(0, 0));
        Check.noArgument("parse", () -> x.parse(1));
        Check.noIndex("save", () -> x.saveSnapshot(2));
        Check.noState("restore", () -> x.restoreSnapshot(0));
        Check.same("the memory behind exceptions", Picture.of(x), before);
    }
}
