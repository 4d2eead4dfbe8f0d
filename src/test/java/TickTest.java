/** A tick and its eight steps, each with a memory small enough to be worked out by hand. */
public final class TickTest {
    public static void main(String[] args) {
        requestsComeAndAreServed();
        debtsCome();
        debtsAreTraded();
        debtsGoToTheCoolest();
        debtsStayWithoutTrading();
        wishes();
        patience();
        slotsOfEqualBanks();
        slotsByKind();
        slotsByDebt();
        slotsByRemains();
        serviceInPlaceOfRefresh();
        lossesOfRows();
        boundsOfBeforeTheService();
        boundsOfWeakRows();
        heats();
        Check.end();
    }

    private static void banks(RefreshTrader x, int what, int... due) {
        for (int bank = 0; bank < due.length; bank++) {
            Check.same("bank " + bank + ", " + what, x.bank(bank, what), due[bank]);
        }
    }

    private static void ages(RefreshTrader x, int bank, int... due) {
        for (int row = 0; row < due.length; row++) {
            Check.same("age of row " + row, x.row(bank, row, 0), due[row]);
        }
    }

    private static void requestsComeAndAreServed() {
        RefreshTrader x = Memory.of("memory 1 3 20 5; ask 0 0 1; ask 0 0 2; ask 2 0 0;");
        ages(x, 0, 0, 0, 0);
        x.pass(1);
        ages(x, 0, 1, 0, 1);
        Check.same("wish to serve", x.bank(0, 7), 4);
        Check.same("the first request is served", x.request(0, 4), 0);
        Check.same("the second request waits", x.request(1, 3), 1);
        Check.same("the third request is to come", x.request(2, 3), 0);
        x.pass(1);
        ages(x, 0, 2, 1, 0);
        Check.same("the second request is served", x.request(1, 4), 1);
        Check.same("the third request is still to come", x.request(2, 3), 0);
        x.pass(1);
        ages(x, 0, 0, 2, 1);
        Check.same("the third request is served as it comes", x.request(2, 4), 2);
        x.pass(1);
        ages(x, 0, 1, 3, 2);
        Check.same("no wish", x.bank(0, 7), 0);
        x.pass(2);
        ages(x, 0, 3, 0, 4);
        Check.same("wish to refresh", x.bank(0, 7), 5);
    }

    private static void debtsCome() {
        RefreshTrader x = Memory.of("memory 2 1 50 3; margin 0;");
        x.pass(3);
        Check.same("no debts ahead of the interval", x.account(0), 0);
        x.pass(1);
        Check.same("a debt for each bank", x.account(0), 2);
        banks(x, 0, 0, 1);
        x.pass(1);
        banks(x, 0, 0, 0);
        x.pass(1);
        Check.same("no debts between", x.account(0), 2);
        x.pass(1);
        Check.same("debts again", x.account(0), 4);
    }

    private static RefreshTrader traders(int most, String more) {
        // Bank 0 has a heat of 2 and bank 2 one of 3 in the tick 2, in which the debts come.
        RefreshTrader x = Memory.of("memory 3 1 99 2; trading; hot 1; gain 3; most " + most + ";"
                + "ask 0 0 0; ask 1 2 0;" + more);
        x.pass(3);
        return x;
    }

    private static void debtsAreTraded() {
        RefreshTrader x = traders(4, "");
        banks(x, 5, 1, 0, 1);
        banks(x, 6, 0, 2, 0);
        banks(x, 0, 0, 2, 0);
        Check.same("traded units", x.account(4), 2);
        RefreshTrader full = traders(2, "");
        banks(full, 5, 1, 0, 0);
        banks(full, 6, 0, 1, 0);
        banks(full, 7, 0, 3, 5);
        banks(full, 8, 0, 1, 0);
        banks(full, 0, 0, 1, 1);
        RefreshTrader none = traders(1, "");
        banks(none, 5, 0, 0, 0);
        banks(none, 7, 3, 3, 3);
        banks(none, 0, 0, 1, 1);
        // One unit of a bank a tick, and only while it is hot.
        x.pass(1);
        banks(x, 5, 1, 0, 1);
        RefreshTrader one = Memory.of("memory 2 1 99 99; trading; hot 1; gain 20; ahead 8;");
        one.trade(1, 0);
        one.trade(1, 0);
        one.ask(0, 0);
        one.pass(1);
        banks(one, 5, 0, 2);
        one.ask(0, 0);
        one.pass(1);
        banks(one, 5, 1, 2);
        one.pass(1);
        banks(one, 5, 2, 2);
        one.pass(1);
        banks(one, 5, 2, 2);
    }

    private static void debtsGoToTheCoolest() {
        String text = "memory 4 1 99 2; trading; hot 5; gain 5; ask 1 3 0;";
        RefreshTrader lowest = Memory.of(text + "ask 0 0 0;");
        lowest.pass(3);
        banks(lowest, 6, 0, 1, 0, 0);
        RefreshTrader coolest = Memory.of(text + "ask 0 0 0; ask 0 1 0;");
        coolest.pass(3);
        banks(coolest, 6, 0, 0, 1, 0);
        RefreshTrader allWarm = Memory.of(text + "ask 0 0 0; ask 0 1 0; ask 0 2 0;");
        allWarm.pass(3);
        banks(allWarm, 6, 1, 0, 0, 0);
    }

    private static void debtsStayWithoutTrading() {
        RefreshTrader x = Memory.of("memory 3 1 99 2; hot 1; gain 3; ask 0 0 0; ask 1 2 0;");
        x.pass(3);
        banks(x, 5, 0, 0, 0);
        Check.same("nothing is traded", x.account(4), 0);
        RefreshTrader cool = Memory.of("memory 3 1 99 2; trading; hot 9; gain 3; ask 0 0 0; ask 1 2 0;");
        cool.pass(3);
        banks(cool, 5, 0, 0, 0);
    }

    private static void wishes() {
        RefreshTrader x = Memory.of("memory 1 2 9 99; margin 3; ahead 2; weak 0 1 6 4;");
        // Row 1 has 9 left at the time 0, and 6 - 4 at the time 4 were it not touched.
        Check.same("wish ahead", x.next(0, 0), 6);
        Check.same("the lowest row of equal ones", x.next(0, 2), 0);
        x.pass(1);
        Check.same("wish ahead again", x.next(0, 0), 6);
        Check.same("the row of which the least remains", x.next(0, 2), 1);
        x.pass(1);
        Check.same("no wish at -ahead", x.next(0, 0), 0);
        Check.same("no row", x.next(0, 2), -1);
        x.pass(3);
        // At the time 5 the ages are 4 and 3, the bounds 9 and 6: the margin is just reached.
        Check.same("urgent", x.next(0, 0), 1);
        Check.same("the urgent row", x.next(0, 2), 1);
        x.set(6, 2);
        Check.same("not urgent with a lesser margin", x.next(0, 0), 0);
        x.ask(0, 0);
        Check.same("a request waits", x.next(0, 0), 4);
        x.set(6, 3);
        Check.same("urgent ahead of a request", x.next(0, 0), 1);
    }

    private static void patience() {
        String text = "memory 1 2 99 1; most 1; patience 3; ask 0 0 1; ask 0 0 1;";
        RefreshTrader x = Memory.of(text);
        int[] wishes = {4, 3, 3, 2, 3};
        int[] debts = {0, 0, 0, 1, 1};
        for (int tick = 0; tick < wishes.length; tick++) {
            x.pass(1);
            Check.same("wish in the tick " + tick, x.bank(0, 7), wishes[tick]);
            Check.same("debt behind the tick " + tick, x.bank(0, 0), debts[tick]);
        }
        RefreshTrader urgent = Memory.of(text + "margin 20; weak 0 0 20 0;");
        urgent.pass(10);
        Check.same("urgent ahead of patience", urgent.bank(0, 7), 1);
        Check.same("nothing is served", urgent.account(5), 0);
    }

    private static void slotsOfEqualBanks() {
        RefreshTrader x = Memory.of("memory 4 1 10 2; slots 2; margin 0;");
        x.pass(3);
        banks(x, 7, 5, 5, 5, 5);
        banks(x, 8, 1, 1, 0, 0);
        banks(x, 0, 0, 0, 1, 1);
        x.pass(1);
        banks(x, 7, 0, 0, 5, 5);
        banks(x, 8, 0, 0, 1, 1);
    }

    private static void slotsByKind() {
        RefreshTrader urgent = Memory.of("memory 2 1 50 99; weak 1 0 3 0; most 1;");
        urgent.pass(1);
        urgent.set(2, 8);
        urgent.trade(1, 0);
        urgent.pass(1);
        banks(urgent, 7, 3, 1);
        banks(urgent, 8, 0, 1);
        Check.same("an urgent refresh", urgent.account(2), 1);
        urgent.pass(1);
        banks(urgent, 7, 3, 6);
        banks(urgent, 8, 1, 0);
        Check.same("no other urgent refresh", urgent.account(2), 1);

        RefreshTrader forced = Memory.of("memory 3 1 50 99; ahead 8; most 2;");
        forced.trade(0, 1);
        forced.trade(0, 2);
        forced.trade(0, 2);
        forced.pass(1);
        banks(forced, 7, 6, 5, 3);
        banks(forced, 8, 0, 0, 1);
        forced.set(0, 2);
        forced.set(1, 1);
        forced.set(1, 8);
        forced.trade(0, 2);
        forced.set(1, 2);
        forced.trade(2, 1);
        forced.pass(1);
        banks(forced, 7, 6, 3, 5);
        banks(forced, 8, 0, 1, 1);

        RefreshTrader ahead = Memory.of("memory 2 1 50 99; ahead 2;");
        ahead.trade(0, 1);
        ahead.pass(1);
        banks(ahead, 7, 6, 5);
        banks(ahead, 8, 0, 1);
        banks(ahead, 0, -1, 0);
    }

    private static void slotsByDebt() {
        RefreshTrader x = Memory.of("memory 3 1 50 99; ahead 8;");
        x.trade(0, 1);
        x.trade(0, 2);
        x.trade(0, 2);
        x.saveSnapshot(0);
        x.pass(1);
        banks(x, 7, 6, 5, 5);
        banks(x, 8, 0, 0, 1);
        x.pass(1);
        banks(x, 8, 0, 1, 0);
        x.restoreSnapshot(0);
        x.set(1, 1);
        x.pass(1);
        banks(x, 7, 6, 3, 3);
        banks(x, 8, 0, 0, 1);
        RefreshTrader ahead = Memory.of("memory 3 1 50 99; ahead 8;");
        ahead.trade(0, 2);
        ahead.trade(0, 1);
        ahead.pass(2);
        // The debts are -2, 0 and 0 then.
        ahead.trade(1, 2);
        ahead.pass(1);
        ahead.pass(1);
        banks(ahead, 7, 6, 6, 6);
        banks(ahead, 8, 0, 0, 1);
        banks(ahead, 0, -2, -1, -1);
    }

    private static void slotsByRemains() {
        RefreshTrader x = Memory.of("memory 3 1 50 99; margin 20; weak 0 0 5 0; weak 1 0 4 0; weak 2 0 4 0;");
        x.pass(1);
        banks(x, 7, 1, 1, 1);
        banks(x, 8, 0, 1, 0);
        x.pass(1);
        // Of bank 0 remain 4, of bank 1 4, of bank 2 3.
        banks(x, 8, 0, 0, 1);
        x.pass(1);
        // Of bank 0 remain 3, of bank 1 3, of bank 2 4.
        banks(x, 8, 1, 0, 0);
        Check.same("urgent refreshes", x.account(2), 3);
    }

    private static void serviceInPlaceOfRefresh() {
        RefreshTrader x = Memory.of("memory 2 2 50 99; margin 20; weak 0 0 9 0; weak 1 1 9 0; ask 0 1 0;");
        x.pass(1);
        banks(x, 7, 1, 1);
        banks(x, 8, 1, 0);
        Check.same("the request is served", x.request(0, 3), 2);
        ages(x, 1, 0, 1);
        banks(x, 1, 0, 1);
        banks(x, 0, -1, 0);
        banks(x, 4, 1, 0);
        x.pass(1);
        banks(x, 8, 0, 1);
        ages(x, 0, 1, 2);
        ages(x, 1, 1, 0);
        RefreshTrader slow = Memory.of("memory 3 2 99 99; patience 1; ask 0 1 0; ask 0 1 0; ask 0 2 0;");
        slow.pass(2);
        banks(slow, 7, 0, 2, 0);
        banks(slow, 8, 0, 1, 0);
    }

    private static void lossesOfRows() {
        RefreshTrader x = Memory.of("memory 1 3 4 99; margin 0;");
        Check.same("no loss at first", x.pass(4), 0);
        Check.same("losses", x.pass(1), 2);
        ages(x, 0, 0, 5, 5);
        int[] lost = {0, 1, 1};
        for (int row = 0; row < 3; row++) {
            Check.same("lost row " + row, x.row(0, row, 3), lost[row]);
            Check.same("losses of row " + row, x.row(0, row, 6), lost[row]);
        }
        Check.same("a lost row is not lost again", x.pass(1), 0);
        Check.same("a touched row is not lost", x.row(0, 1, 3), 0);
        Check.same("its losses stay", x.row(0, 1, 6), 1);
        Check.same("a row stays lost", x.row(0, 2, 3), 1);
        Check.same("the debt of urgent refreshes", x.bank(0, 0), -2);
        x.pass(1);
        Check.same("sum of losses", x.account(3), 2);
        RefreshTrader served = Memory.of("memory 1 2 4 99; margin 0; ask 5 0 1; weak 0 0 3 0;");
        served.set(5, 1);
        served.pass(5);
        Check.same("a row is lost", served.row(0, 1, 3), 0);
    }

    private static void boundsOfBeforeTheService() {
        RefreshTrader x = Memory.of("memory 1 2 8 99; hot 1; margin 0; ask 4 0 0;");
        Check.same("losses while it becomes hot", x.pass(5), 0);
        Check.same("hot banks", x.size(8), 1);
        Check.same("age above the bound", x.row(0, 1, 2), -1);
        Check.same("not lost without step 7", x.row(0, 1, 3), 0);
        Check.same("it is refreshed in time", x.pass(1), 0);
        Check.same("not hot any more", x.size(8), 0);
        RefreshTrader hot = Memory.of("memory 1 3 8 99; hot 1; margin 0; ask 4 0 0;");
        hot.pass(5);
        // The bank is hot in step 7 of this tick, and cools in step 8.
        Check.same("losses of a hot bank", hot.pass(1), 1);
        Check.same("the bound of the cool bank", hot.row(0, 2, 1), 8);
        Check.same("it stays lost", hot.row(0, 2, 3), 1);
    }

    private static void boundsOfWeakRows() {
        RefreshTrader x = Memory.of("memory 1 2 8 99; margin 0; weak 0 0 2 3; weak 0 1 2 3;");
        Check.same("no loss ahead of the tick", x.pass(3), 0);
        Check.same("the bound from the tick on", x.row(0, 1, 2), -1);
        Check.same("a loss in the tick", x.pass(1), 1);
        Check.same("the row", x.row(0, 1, 3), 1);
    }

    private static void heats() {
        RefreshTrader x = Memory.of("memory 2 1 99 99; gain 3; ask 0 0 0; ask 0 0 0; ask 3 1 0;");
        int[][] heats = {{3, 0}, {6, 0}, {5, 0}, {4, 3}, {3, 2}, {2, 1}, {1, 0}, {0, 0}, {0, 0}};
        for (int[] due : heats) {
            x.pass(1);
            banks(x, 1, due);
        }
    }
}
