/** Promises 7 to 11: banks, rows, requests, the line of those that wait and the weakest row. */
public final class BanksTest {
    private static final String TEXT = "memory 1 3 20 5; ask 0 0 1; ask 0 0 2; ask 2 0 0;";

    public static void main(String[] args) {
        promise7();
        promise7Trades();
        promise7Wrong();
        promise8();
        promise8Bounds();
        promise8Wrong();
        promise9();
        promise9Wrong();
        promise10();
        promise10Order();
        promise11();
        Check.end();
    }

    private static void bank(RefreshTrader x, int bank, int... due) {
        for (int what = 0; what < due.length; what++) {
            Check.same("bank " + bank + ", " + what, x.bank(bank, what), due[what]);
        }
    }

    private static void row(RefreshTrader x, int bank, int row, int... due) {
        for (int what = 0; what < due.length; what++) {
            Check.same("row " + bank + ", " + row + ", " + what, x.row(bank, row, what), due[what]);
        }
    }

    private static void request(RefreshTrader x, int request, int... due) {
        for (int what = 0; what < due.length; what++) {
            Check.same("request " + request + ", " + what, x.request(request, what), due[what]);
        }
    }

    private static void promise7() {
        RefreshTrader x = Memory.of(TEXT);
        bank(x, 0, 0, 0, 0, 0, 0, 0, 0, -1, -1);
        x.pass(1);
        bank(x, 0, 0, 1, 1, 1, 0, 0, 0, 4, 1);
        x.pass(3);
        bank(x, 0, 0, 2, 0, 3, 0, 0, 0, 0, 0);
        x.pass(2);
        bank(x, 0, 0, 0, 0, 3, 1, 0, 0, 5, 1);
        RefreshTrader urgent = Memory.of("memory 2 1 4 99;");
        urgent.pass(3);
        bank(urgent, 0, -1, 0, 0, 0, 1, 0, 0, 1, 1);
        bank(urgent, 1, 0, 0, 0, 0, 0, 0, 0, 1, 0);
    }

    private static void promise7Trades() {
        RefreshTrader x = Memory.of("memory 3 1 99 2; trading; hot 1; gain 3; ask 0 0 0; ask 1 2 0;");
        x.pass(3);
        bank(x, 0, 0, 1, 0, 1, 0, 1, 0, 0, 0);
        bank(x, 1, 2, 0, 0, 0, 1, 0, 2, 5, 1);
        bank(x, 2, 0, 2, 0, 1, 0, 1, 0, 0, 0);
        x.set(3, 99);
        x.trade(1, 0);
        bank(x, 0, 1, 1, 0, 1, 0, 1, 1, 0, 0);
        bank(x, 1, 1, 0, 0, 0, 1, 1, 2, 5, 1);
    }

    private static void promise7Wrong() {
        RefreshTrader x = Memory.of("memory 3 1 99 2;");
        Check.noIndex("bank -1", () -> x.bank(-1, 0));
        Check.noIndex("bank 3", () -> x.bank(3, 0));
        Check.noIndex("bank 3, wrong what", () -> x.bank(3, 9));
        Check.noIndex("the greatest bank", () -> x.bank(Integer.MAX_VALUE, 0));
        Check.noIndex("the least bank", () -> x.bank(Integer.MIN_VALUE, -1));
        Check.noArgument("what -1", () -> x.bank(2, -1));
        Check.noArgument("what 9", () -> x.bank(2, 9));
    }

    private static void promise8() {
        RefreshTrader x = Memory.of(TEXT + "weak 0 1 7 999;");
        row(x, 0, 0, 0, 20, 20, 0, 0, 0, 0, -1, -1);
        row(x, 0, 1, 0, 20, 20, 0, 0, 0, 0, 7, 999);
        x.pass(6);
        row(x, 0, 0, 3, 20, 17, 0, 0, 1, 0, -1, -1);
        row(x, 0, 1, 0, 20, 20, 0, 1, 1, 0, 7, 999);
        row(x, 0, 2, 4, 20, 16, 0, 0, 1, 0, -1, -1);
        RefreshTrader loser = Memory.of("memory 2 2 4 99; margin 0;");
        loser.pass(7);
        // Urgent and granted: row 0 of bank 0 at 4, row 1 of bank 0 at 5, row 0 of bank 1 at 6.
        row(loser, 0, 0, 2, 4, 2, 0, 1, 0, 0, -1, -1);
        row(loser, 0, 1, 1, 4, 3, 0, 1, 0, 1, -1, -1);
        row(loser, 1, 0, 0, 4, 4, 0, 1, 0, 1, -1, -1);
        row(loser, 1, 1, 7, 4, -3, 1, 0, 0, 1, -1, -1);
    }

    private static void promise8Bounds() {
        RefreshTrader x = Memory.of("memory 2 2 9 99; hot 2; gain 2; weak 0 1 5 3; weak 1 0 12 0; margin 0;"
                + "ask 0 0 0;");
        row(x, 0, 1, 0, 9, 9, 0, 0, 0, 0, 5, 3);
        row(x, 1, 0, 0, 9, 9, 0, 0, 0, 0, 12, 0);
        x.pass(1);
        row(x, 0, 0, 0, 4, 4, 0, 0, 1);
        row(x, 0, 1, 1, 4, 3, 0, 0, 0);
        row(x, 1, 1, 1, 9, 8, 0, 0, 0);
        x.pass(1);
        row(x, 0, 1, 2, 9, 7);
        x.pass(1);
        row(x, 0, 1, 3, 5, 2);
        x.set(3, 99);
        row(x, 0, 1, 3, 5, 2);
        RefreshTrader least = Memory.of("memory 1 3 4 99; weak 0 0 1 0; weak 0 1 3 0; hot 1; gain 5; margin 0;"
                + "ask 0 0 0;");
        row(least, 0, 0, 0, 1, 1);
        row(least, 0, 1, 0, 3, 3);
        least.pass(1);
        row(least, 0, 0, 0, 1, 1);
        row(least, 0, 1, 1, 1, 0);
        row(least, 0, 2, 1, 2, 1);
    }

    private static void promise8Wrong() {
        RefreshTrader x = Memory.of("memory 3 2 99 2;");
        Check.noIndex("bank -1", () -> x.row(-1, 0, 0));
        Check.noIndex("bank 3", () -> x.row(3, 0, 0));
        Check.noIndex("row -1", () -> x.row(0, -1, 0));
        Check.noIndex("row 2", () -> x.row(0, 2, 0));
        Check.noIndex("row 2, wrong what", () -> x.row(0, 2, 9));
        Check.noIndex("the greatest", () -> x.row(Integer.MAX_VALUE, Integer.MAX_VALUE, 0));
        Check.noArgument("what -1", () -> x.row(2, 1, -1));
        Check.noArgument("what 9", () -> x.row(2, 1, 9));
        Check.same("the last row", x.row(2, 1, 1), 99);
    }

    private static void promise9() {
        RefreshTrader x = Memory.of("memory 2 5 20 50; ask 3 1 4; ask 0 0 1; ask 0 0 2;");
        request(x, 0, 1, 4, 3, 0, -1);
        request(x, 1, 0, 1, 0, 0, -1);
        Check.same("ask", x.ask(1, 3), 3);
        request(x, 3, 1, 3, 0, 1, -1);
        x.pass(1);
        request(x, 1, 0, 1, 0, 2, 0);
        request(x, 2, 0, 2, 0, 1, -1);
        request(x, 3, 1, 3, 0, 2, 0);
        x.pass(2);
        request(x, 0, 1, 4, 3, 0, -1);
        request(x, 2, 0, 2, 0, 2, 1);
        Check.same("ask", x.ask(1, 0), 4);
        request(x, 4, 1, 0, 3, 1, -1);
        x.pass(1);
        request(x, 4, 1, 0, 3, 2, 3);
        request(x, 0, 1, 4, 3, 1, -1);
        x.pass(1);
        request(x, 0, 1, 4, 3, 2, 4);
    }

    private static void promise9Wrong() {
        RefreshTrader x = Memory.of("memory 2 5 20 50; ask 3 1 4; ask 0 0 1;");
        Check.noIndex("request -1", () -> x.request(-1, 0));
        Check.noIndex("request 2", () -> x.request(2, 0));
        Check.noIndex("request 2, wrong what", () -> x.request(2, 5));
        Check.noIndex("the greatest request", () -> x.request(Integer.MAX_VALUE, 0));
        Check.noArgument("what -1", () -> x.request(1, -1));
        Check.noArgument("what 5", () -> x.request(1, 5));
        x.ask(0, 0);
        Check.same("request 2", x.request(2, 0), 0);
        x.undo();
        Check.noIndex("request 2 undone", () -> x.request(2, 0));
    }

    private static void line(RefreshTrader x, int bank, int... due) {
        for (int k = 0; k < due.length; k++) {
            Check.same("waiting " + bank + ", " + k, x.waiting(bank, k), due[k]);
        }
        Check.same("waiting behind the last", x.waiting(bank, due.length), -1);
        Check.same("waiting far behind", x.waiting(bank, Integer.MAX_VALUE), -1);
        Check.same("waiting -1", x.waiting(bank, -1), -1);
        Check.same("waiting at the least k", x.waiting(bank, Integer.MIN_VALUE), -1);
    }

    private static void promise10() {
        RefreshTrader x = Memory.of("memory 2 4 50 99; ask 0 1 0; ask 0 0 1; ask 0 1 2; ask 1 1 3;");
        line(x, 0);
        line(x, 1);
        x.pass(1);
        line(x, 0);
        line(x, 1, 2);
        x.ask(1, 0);
        x.ask(0, 0);
        line(x, 0, 5);
        line(x, 1, 2, 4);
        Check.noIndex("bank -1", () -> x.waiting(-1, 0));
        Check.noIndex("bank 2", () -> x.waiting(2, 0));
        Check.noIndex("bank 2, k -1", () -> x.waiting(2, -1));
    }

    private static void promise10Order() {
        RefreshTrader x = Memory.of("memory 1 4 50 99; ask 1 0 2; ask 0 0 0; ask 0 0 1; ask 1 0 3;");
        Check.same("ask ahead of the tick", x.ask(0, 3), 4);
        line(x, 0, 4);
        x.pass(1);
        Check.same("served ahead of those that came by the tick", x.request(4, 4), 0);
        line(x, 0, 1, 2);
        Check.same("ask ahead of the next tick", x.ask(0, 2), 5);
        line(x, 0, 1, 2, 5);
        x.pass(1);
        line(x, 0, 2, 5, 0, 3);
        x.pass(3);
        line(x, 0, 3);
        Check.same("the order of serving", x.request(0, 4), 4);
    }

    private static void promise11() {
        Check.same("the lowest of equal ones", Memory.of("memory 4 16 9 9;").weakest(), 0);
        Check.same("bank and row", Memory.of("memory 3 12 9 9; weak 2 11 5 0;").weakest(), 211);
        Check.same("the lower bank", Memory.of("memory 4 12 9 9; weak 3 0 5 0; weak 1 3 5 0; weak 2 2 5 0;").weakest(),
                103);
        Check.same("the lower row", Memory.of("memory 2 12 9 9; weak 1 7 5 0; weak 1 4 5 0;").weakest(), 104);
        Check.same("not weak yet", Memory.of("memory 2 12 9 9; weak 1 7 5 1;").weakest(), 0);
        RefreshTrader x = Memory.of("memory 2 2 9 99; hot 2; gain 2; weak 0 1 5 3; margin 0; ask 0 0 0;");
        x.pass(1);
        Check.same("a row of a hot bank", x.weakest(), 1);
        x.pass(1);
        // Of row 0 of bank 0 remain 8, of the others 7.
        Check.same("the bank is cool", x.weakest(), 1);
        RefreshTrader lost = Memory.of("memory 2 2 4 99; margin 0;");
        lost.pass(7);
        Check.same("a lost row", lost.weakest(), 101);
    }
}
