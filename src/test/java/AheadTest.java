/** Promises 12 to 17: what would be. None of them changes anything. */
public final class AheadTest {
    public static void main(String[] args) {
        promise12();
        promise12LikeTick();
        promise12Wrong();
        promise13();
        promise13Far();
        promise14();
        promise15();
        promise15Slots();
        promise15Wrong();
        promise16();
        promise16Far();
        promise17();
        nothingChanges();
        Check.end();
    }

    private static void next(RefreshTrader x, int bank, int... due) {
        for (int what = 0; what < due.length; what++) {
            Check.same("next " + bank + ", " + what, x.next(bank, what), due[what]);
        }
    }

    private static void promise12() {
        RefreshTrader x = Memory.of("memory 2 2 50 99; margin 20; weak 0 0 9 0; weak 1 1 9 0; ask 0 1 0;");
        next(x, 0, 1, 1, 0, -1);
        next(x, 1, 1, 0, 0, 0);
        x.pass(1);
        next(x, 0, 1, 0, -1, -1);
        next(x, 1, 1, 1, 1, -1);
        RefreshTrader y = Memory.of("memory 3 3 50 1; ask 1 1 2; ask 1 1 0;");
        next(y, 0, 0, 0, -1, -1);
        y.pass(1);
        next(y, 0, 5, 1, 0, -1);
        next(y, 1, 4, 1, 2, 0);
        next(y, 2, 5, 0, -1, -1);
    }

    private static void promise12LikeTick() {
        RefreshTrader x = Memory.of("memory 4 3 11 2; slots 2; trading; hot 3; gain 2; patience 2; ahead 1;"
                + "ask 0 0 0; ask 2 0 1; ask 2 0 2; ask 3 1 2; ask 3 1 1; ask 3 1 0; ask 4 2 0; ask 9 3 1;");
        for (int tick = 0; tick < 40; tick++) {
            int[] wishes = new int[4];
            int[] granted = new int[4];
            int[] touched = new int[4];
            for (int bank = 0; bank < 4; bank++) {
                wishes[bank] = x.next(bank, 0);
                granted[bank] = x.next(bank, 1);
                touched[bank] = x.next(bank, 2);
            }
            x.pass(1);
            for (int bank = 0; bank < 4; bank++) {
                Check.same("wish that was told", x.bank(bank, 7), wishes[bank]);
                Check.same("grant that was told", x.bank(bank, 8), granted[bank]);
                for (int row = 0; row < 3; row++) {
                    Check.same("row that was told", x.row(bank, row, 0) == 0, row == touched[bank]);
                }
            }
        }
    }

    private static void promise12Wrong() {
        RefreshTrader x = Memory.of("memory 3 3 50 1;");
        Check.noIndex("bank -1", () -> x.next(-1, 0));
        Check.noIndex("bank 3", () -> x.next(3, 0));
        Check.noIndex("bank 3, wrong what", () -> x.next(3, 4));
        Check.noArgument("what -1", () -> x.next(0, -1));
        Check.noArgument("what 4", () -> x.next(0, 4));
    }

    private static void promise13() {
        RefreshTrader x = Memory.of("memory 1 2 4 99; margin 0;");
        for (int time = 0; time <= 4; time++) {
            Check.same("next loss at " + time, x.nextLoss(), 4);
            x.pass(1);
        }
        Check.same("the next loss behind it", x.nextLoss(), -1);
        Check.same("no loss", Memory.of("memory 1 2 4 99; margin 1;").nextLoss(), -1);
        Check.same("loss of weak rows", Memory.of("memory 1 2 8 99; margin 0; weak 0 0 2 3; weak 0 1 2 3;").nextLoss(),
                3);
    }

    private static void promise13Far() {
        // Of 16 rows four are refreshed by debts, one is urgent in the tick 400, and 11 are lost.
        RefreshTrader x = Memory.of("memory 1 16 400 99; margin 0;");
        x.pass(100);
        Check.same("a loss in the tick 301 from now", x.nextLoss(), -1);
        Check.same("its losses", x.lossesAhead(300), 0);
        x.pass(1);
        Check.same("a loss in the tick 300 from now", x.nextLoss(), 400);
        Check.same("no losses ahead of it", x.lossesAhead(299), 0);
        Check.same("its losses", x.lossesAhead(300), 11);
        RefreshTrader late = Memory.of("memory 4 16 40 1;");
        for (int i = 0; i < 10; i++) {
            late.pass(200);
        }
        Check.same("a loss behind the last time", late.nextLoss() >= 2000, true);
        Check.same("losses behind the last time", late.lossesAhead(300) > 0, true);
    }

    private static void promise14() {
        RefreshTrader x = Memory.of("memory 1 3 4 99; margin 0;");
        Check.same("losses in 4 ticks", x.lossesAhead(4), 0);
        Check.same("losses in 5 ticks", x.lossesAhead(5), 2);
        Check.same("losses in 6 ticks", x.lossesAhead(6), 2);
        int told = x.lossesAhead(137);
        Check.same("losses that were told", x.pass(137), told);
        Check.noArgument("0 ticks", () -> x.lossesAhead(0));
        Check.noArgument("-1 ticks", () -> x.lossesAhead(-1));
        Check.noArgument("301 ticks", () -> x.lossesAhead(301));
        Check.noArgument("the most ticks", () -> x.lossesAhead(Integer.MAX_VALUE));
        Check.same("losses in 1 tick", Memory.of("memory 1 3 4 99;").lossesAhead(1), 0);
    }

    private static void promise15() {
        RefreshTrader x = Memory.of("memory 1 2 4 99; margin 0;");
        Check.same("no loss in 4 ticks", x.leastSetting(6, 4), 0);
        Check.same("margin for 5 ticks", x.leastSetting(6, 5), 1);
        Check.same("margin for 300 ticks", x.leastSetting(6, 300), 1);
        Check.same("ahead for 5 ticks", x.leastSetting(2, 5), 1);
        Check.same("slots do not help", x.leastSetting(0, 5), -1);
        Check.same("most does not help", x.leastSetting(1, 5), -1);
        Check.same("the least slots", x.leastSetting(0, 4), 1);
        Check.same("the least hot", x.leastSetting(3, 4), 1);
        x.set(6, 9);
        Check.same("whatever the margin is now", x.leastSetting(6, 5), 1);
        Check.same("the least patience", x.leastSetting(5, 300), 1);
        // The bound is 4 of 8 in the ticks with a heat of hot or more; the heats are 3, 2, 1, 0.
        RefreshTrader hot = Memory.of("memory 1 3 8 99; gain 3; margin 0; ask 4 0 0;");
        Check.same("hot", hot.leastSetting(3, 7), 4);
        Check.same("gain", Memory.of("memory 1 3 8 99; hot 3; gain 3; margin 0; ask 4 0 0;").leastSetting(4, 6), 1);
    }

    private static void promise15Slots() {
        RefreshTrader x = Memory.of("memory 2 2 4 99; margin 1; slots 4;");
        Check.same("slots for 5 ticks", x.leastSetting(0, 5), 2);
        Check.same("slots for 300 ticks", x.leastSetting(0, 300), 2);
        RefreshTrader four = Memory.of("memory 4 4 4 99; margin 20;");
        Check.same("slots for four banks", four.leastSetting(0, 300), 4);
        RefreshTrader y = Memory.of("memory 1 2 4 99; margin 0; weak 0 1 9 0;");
        Check.same("nothing needs patience", y.leastSetting(5, 4), 1);
    }

    private static void promise15Wrong() {
        RefreshTrader x = Memory.of("memory 1 2 4 99;");
        Check.noArgument("what -1", () -> x.leastSetting(-1, 5));
        Check.noArgument("what 7", () -> x.leastSetting(7, 5));
        Check.noArgument("0 ticks", () -> x.leastSetting(0, 0));
        Check.noArgument("301 ticks", () -> x.leastSetting(0, 301));
        Check.noArgument("both wrong", () -> x.leastSetting(7, 0));
    }

    private static void promise16() {
        RefreshTrader x = Memory.of("memory 1 2 99 1; most 1; patience 3; ask 0 0 1; ask 0 0 1; ask 0 0 0;");
        Check.same("served at once", x.waitOf(0), 0);
        Check.same("served by patience", x.waitOf(1), 3);
        Check.same("served by patience then", x.waitOf(2), 4);
        x.pass(4);
        Check.same("was served", x.waitOf(1), 3);
        Check.same("is served next", x.waitOf(2), 4);
        Check.same("a new one", x.ask(0, 0), 3);
        Check.same("wait of a new one", x.waitOf(3), 3);
        Check.noIndex("request -1", () -> x.waitOf(-1));
        Check.noIndex("request 4", () -> x.waitOf(4));
        RefreshTrader never = Memory.of("memory 1 1 4 99; margin 20; ask 0 0 0;");
        Check.same("never served", never.waitOf(0), -1);
    }

    private static void promise16Far() {
        RefreshTrader x = Memory.of("memory 1 2 999 99; ask 299 0 0; ask 300 0 0; ask 999 0 1;");
        Check.same("in the tick 300 from now", x.waitOf(0), 0);
        Check.same("in the tick 301 from now", x.waitOf(1), -1);
        x.pass(1);
        Check.same("in the tick 300 then", x.waitOf(1), 0);
        x.pass(200);
        x.pass(200);
        x.pass(200);
        x.pass(98);
        Check.same("at the time 699", x.waitOf(2), -1);
        x.pass(1);
        Check.same("at the time 700", x.waitOf(2), 0);
        Check.same("served long ago", x.waitOf(0), 0);
    }

    private static void promise17() {
        // Bank 0 is hot and busy; bank 1, which takes its debts, then refreshes too late or in time.
        String text = "memory 2 3 6 2; hot 1; gain 2; most 2; margin 0;"
                + "ask 0 0 0; ask 1 0 0; ask 2 0 0; ask 4 0 0; ask 5 0 0; ask 6 0 0; ask 7 0 0; ask 8 0 0;";
        RefreshTrader without = Memory.of(text);
        RefreshTrader with = Memory.of(text + "trading;");
        int unequal = 0;
        for (int ticks = 1; ticks <= 300; ticks++) {
            int gain = without.lossesAhead(ticks) - with.lossesAhead(ticks);
            Check.same("gain without", without.gainOfTrading(ticks), gain);
            Check.same("gain with", with.gainOfTrading(ticks), gain);
            unequal += gain != 0 ? 1 : 0;
        }
        Check.same("trading alters something", unequal > 0, true);
        Check.noArgument("0 ticks", () -> with.gainOfTrading(0));
        Check.noArgument("301 ticks", () -> with.gainOfTrading(301));
    }

    private static void nothingChanges() {
        RefreshTrader x = Memory.of("memory 3 3 6 2; hot 2; gain 2; trading; ask 3 0 0; ask 4 0 1; ask 5 1 1;");
        x.pass(4);
        x.saveSnapshot(0);
        String before = Picture.of(x);
        x.next(1, 0);
        Check.same("behind next", Picture.of(x), before);
        x.nextLoss();
        Check.same("behind nextLoss", Picture.of(x), before);
        x.lossesAhead(50);
        Check.same("behind lossesAhead", Picture.of(x), before);
        x.leastSetting(3, 50);
        Check.same("behind leastSetting", Picture.of(x), before);
        x.waitOf(2);
        Check.same("behind waitOf", Picture.of(x), before);
        x.gainOfTrading(50);
        Check.same("behind gainOfTrading", Picture.of(x), before);
        Check.same("undo behind all", x.undo(), 0);
        Check.same("the snapshot behind all", x.restoreSnapshot(0), 4);
        Check.same("its memory", Picture.of(x), before.replace("undo 1", "undo 0"));
    }
}
