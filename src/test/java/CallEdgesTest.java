/**
 * The boundary cases of promises 5 to 26, one test for each sentence that names one. Arguments out
 * of range are in RefusedTest.
 */
public final class CallEdgesTest {
    private static final int MOST = 1;
    private static final int AHEAD = 2;
    private static final int HOT = 3;
    private static final int MARGIN = 6;

    public static void main(String[] args) {
        sizesOfNothing();
        sizesOfAll();
        sizesOfRequests();
        bankAheadOfTheFirstTick();
        bankWithoutAWish();
        bankAhead();
        rowThatIsNotWeak();
        requestNotServed();
        waitingBehindTheLast();
        weakestOfEqualOnes();
        weakestBelowZero();
        nextOfNothing();
        nextAtTheLastTime();
        nextLossNow();
        nextLossInTheLastTick();
        lossesInTheFewestAndMostTicks();
        leastSettingAtBothEnds();
        leastSettingOfHot();
        leastSettingOfSlots();
        waitOfServedAtOnce();
        waitOfTheLastTick();
        gainOfNothing();
        gainOfOneLoss();
        meanWithoutAny();
        meanIsNotTruncated();
        greatestWithoutAny();
        wholeAtBothEnds();
        accountSinceParse();
        passFewestAndMost();
        passUpTo2000();
        askUpTo40();
        askBehindAllOthers();
        tradeUpToMost();
        tradeDownToAhead();
        tradeToHotBanks();
        tradeExceptionsInOrder();
        setAtBothEnds();
        setTradingTwice();
        Check.end();
    }

    // ---- promise 5: size

    private static void sizesOfNothing() {
        RefreshTrader x = Memory.of("memory 4 16 999 99;");
        int[] due = {4, 16, 999, 99, 0, 0, 0, 0, 0, 0, 0};
        for (int what = 0; what < due.length; what++) {
            Check.same("size " + what, x.size(what), due[what]);
        }
    }

    private static void sizesOfAll() {
        RefreshTrader hot = Memory.of("memory 4 1 99 99; hot 1;");
        for (int bank = 0; bank < 4; bank++) {
            hot.ask(bank, 0);
            Check.same("requests that wait", hot.size(6), bank + 1);
        }
        hot.pass(1);
        Check.same("all banks are hot", hot.size(8), 4);
        Check.same("no request waits", hot.size(6), 0);
        hot.pass(1);
        Check.same("no bank is hot", hot.size(8), 0);
        // The only refresh of a tick is that of row 0 of bank 0; all others pass the bound at once.
        RefreshTrader lost = Memory.of("memory 4 16 4 99; margin 0;");
        lost.pass(4);
        Check.same("no row is lost", lost.size(7), 0);
        lost.pass(1);
        Check.same("all rows but one are lost", lost.size(7), 63);
        // At the time 4 remain 0 of row 0 and -1 of row 1, so that row 0 is not refreshed.
        RefreshTrader first = Memory.of("memory 1 2 4 99; margin 0; weak 0 1 3 4;");
        first.pass(5);
        Check.same("the first row alone is lost", first.size(7), 1);
    }

    private static void sizesOfRequests() {
        RefreshTrader x = Memory.of("memory 1 1 99 99;" + "ask 999 0 0;".repeat(20));
        Check.same("requests to come", x.size(5), 20);
        Check.same("none of them waits", x.size(6), 0);
        for (int i = 0; i < 20; i++) {
            x.ask(0, 0);
        }
        Check.same("the most requests", x.size(5), 40);
        Check.same("half of them wait", x.size(6), 20);
        x.pass(20);
        Check.same("those served count, too", x.size(5), 40);
        Check.same("but wait no more", x.size(6), 0);
        for (int what = 1; what <= 10; what++) {
            x.setTrading(true);
        }
        Check.same("the most changes that can be undone", x.size(10), 10);
        x.setTrading(true);
        Check.same("and no more", x.size(10), 10);
    }

    // ---- promise 7: bank

    /** "its wish in the latest tick (NONE before the first one)" */
    private static void bankAheadOfTheFirstTick() {
        RefreshTrader x = Memory.of("memory 2 1 99 99; ahead 1;");
        x.trade(0, 1);
        x.ask(0, 0);
        x.set(AHEAD, 2);
        for (int bank = 0; bank < 2; bank++) {
            Check.same("wish ahead of a tick", x.bank(bank, 7), -1);
            Check.same("grant ahead of a tick", x.bank(bank, 8), -1);
        }
        x.pass(1);
        Check.same("wish behind a tick", x.bank(0, 7), 4);
        Check.same("grant behind a tick", x.bank(0, 8), 1);
        x.undo();
        Check.same("wish ahead of the tick again", x.bank(0, 7), -1);
        Check.same("grant ahead of the tick again", x.bank(0, 8), -1);
        x.pass(1);
        Memory.parse(x, "memory 1 1 99 99;");
        Check.same("wish of a new memory", x.bank(0, 7), -1);
        Check.same("grant of a new memory", x.bank(0, 8), -1);
    }

    /** "1 if that was granted (a wish to serve always is), otherwise 0 (also for no wish ...)" */
    private static void bankWithoutAWish() {
        RefreshTrader x = Memory.of("memory 3 1 99 1; margin 0; ask 1 0 0;");
        x.pass(1);
        Check.same("no wish", x.bank(0, 7), 0);
        Check.same("no wish is not granted", x.bank(0, 8), 0);
        x.pass(1);
        Check.same("a wish to serve is granted", x.bank(0, 8), 1);
        Check.same("a wish to refresh that is granted", x.bank(1, 8), 1);
        Check.same("a wish to refresh that is not", x.bank(2, 8), 0);
    }

    /** "its debt (negative if it is ahead)" */
    private static void bankAhead() {
        RefreshTrader x = Memory.of("memory 1 1 99 99; ahead 8;");
        for (int debt = 0; debt >= -8; debt--) {
            Check.same("debt", x.bank(0, 0), debt);
            x.pass(1);
        }
        Check.same("no further ahead", x.bank(0, 0), -8);
        Check.same("refreshes", x.bank(0, 4), 8);
    }

    // ---- promises 8 to 11

    /** "7 its own bound if it is weak (also ahead of its tick), otherwise NONE, 8 the tick ..., otherwise NONE" */
    private static void rowThatIsNotWeak() {
        RefreshTrader x = Memory.of("memory 2 16 99 99; weak 1 15 999 999; weak 0 1 1 0;");
        int weak = 0;
        for (int bank = 0; bank < 2; bank++) {
            for (int row = 0; row < 16; row++) {
                boolean isWeak = bank == 1 && row == 15 || bank == 0 && row == 1;
                weak += isWeak ? 1 : 0;
                Check.same("its own bound", x.row(bank, row, 7), !isWeak ? -1 : bank == 1 ? 999 : 1);
                Check.same("its tick", x.row(bank, row, 8), !isWeak ? -1 : bank == 1 ? 999 : 0);
            }
        }
        Check.same("weak rows", weak, 2);
    }

    /** "4 the tick in which it was served (NONE)" */
    private static void requestNotServed() {
        RefreshTrader x = Memory.of("memory 1 1 99 99; ask 0 0 0; ask 0 0 0; ask 2 0 0;");
        int[][] states = {{0, 0, 0}, {2, 1, 0}, {2, 2, 0}, {2, 2, 2}};
        int[][] servedAt = {{-1, -1, -1}, {0, -1, -1}, {0, 1, -1}, {0, 1, 2}};
        for (int time = 0; time < 4; time++) {
            for (int request = 0; request < 3; request++) {
                Check.same("state at " + time, x.request(request, 3), states[time][request]);
                Check.same("served at, at " + time, x.request(request, 4), servedAt[time][request]);
            }
            x.pass(1);
        }
    }

    /** "Returns the request; NONE if there are not so many, or k is negative." */
    private static void waitingBehindTheLast() {
        RefreshTrader x = Memory.of("memory 2 1 99 99; ask 5 0 0;");
        int[] outside = {Integer.MIN_VALUE, -2, -1, 40, 41, 600, Integer.MAX_VALUE};
        for (int k : outside) {
            Check.same("waiting " + k + " of none", x.waiting(0, k), -1);
        }
        Check.same("one to come does not wait", x.waiting(0, 0), -1);
        for (int i = 1; i < 40; i++) {
            x.ask(1, 0);
            Check.same("the last that waits", x.waiting(1, i - 1), i);
            Check.same("none behind it", x.waiting(1, i), -1);
        }
        for (int k : outside) {
            Check.same("waiting " + k + " of 39", x.waiting(1, k), -1);
        }
        Check.same("none waits for the other bank", x.waiting(0, 0), -1);
        x.pass(1);
        Check.same("the first of those that are left", x.waiting(1, 0), 2);
        Check.same("the last of those that are left", x.waiting(1, 37), 39);
        Check.same("none behind the last", x.waiting(1, 38), -1);
        x.pass(38);
        Check.same("none is left", x.waiting(1, 0), -1);
    }

    /** "Returns 100 * bank + row, of several the lowest." */
    private static void weakestOfEqualOnes() {
        Check.same("one row", new RefreshTrader().weakest(), 0);
        String text = "memory 4 16 99 99;";
        Check.same("all alike", Memory.of(text).weakest(), 0);
        Check.same("the last row of all", Memory.of(text + "weak 3 15 98 0;").weakest(), 315);
        Check.same("the last row of a bank", Memory.of(text + "weak 3 15 98 0; weak 0 15 98 0;").weakest(), 15);
        Check.same("the first row of a bank", Memory.of(text + "weak 3 0 98 0; weak 3 15 98 0;").weakest(), 300);
        Check.same("less remains of the last", Memory.of(text + "weak 0 0 98 0; weak 3 15 97 0;").weakest(), 315);
    }

    private static void weakestBelowZero() {
        RefreshTrader x = Memory.of("memory 2 2 4 99; margin 0;");
        x.pass(4);
        Check.same("nothing remains of all", x.weakest(), 0);
        x.pass(1);
        Check.same("the first of those below", x.weakest(), 1);
        x.pass(1);
        Check.same("the next of those below", x.weakest(), 100);
        x.pass(1);
        Check.same("the last of those below", x.weakest(), 101);
    }

    // ---- promises 12 to 17: what would be

    /** "2 the row that it would touch ... (NONE), 3 the request that it would serve (NONE)" */
    private static void nextOfNothing() {
        RefreshTrader x = Memory.of("memory 3 2 99 99; ask 0 1 1;");
        int[][] due = {{0, 0, -1, -1}, {4, 1, 1, 0}, {0, 0, -1, -1}};
        for (int bank = 0; bank < 3; bank++) {
            for (int what = 0; what < 4; what++) {
                Check.same("next " + bank + ", " + what, x.next(bank, what), due[bank][what]);
            }
        }
        x.set(AHEAD, 1);
        int[][] ahead = {{6, 1, 0, -1}, {4, 1, 1, 0}, {6, 0, -1, -1}};
        for (int bank = 0; bank < 3; bank++) {
            for (int what = 0; what < 4; what++) {
                Check.same("next ahead " + bank + ", " + what, x.next(bank, what), ahead[bank][what]);
            }
        }
        Check.same("the request is to come still", x.request(0, 3), 0);
    }

    private static void nextAtTheLastTime() {
        RefreshTrader x = Memory.of("memory 1 1 99 1;");
        Memory.passTo(x, 2000);
        Check.same("wish at 2000", x.next(0, 0), 5);
        Check.same("no loss behind 2000", x.nextLoss(), -1);
        Check.same("losses behind 2000", x.lossesAhead(300), 0);
        Check.same("margin behind 2000", x.leastSetting(MARGIN, 300), 0);
        Check.same("gain behind 2000", x.gainOfTrading(300), 0);
        x.ask(0, 0);
        Check.same("wait behind 2000", x.waitOf(0), 0);
        Check.same("the time", x.size(4), 2000);
    }

    /** "Returns the time in whose tick the next loss would happen." */
    private static void nextLossNow() {
        RefreshTrader x = Memory.of("memory 1 2 4 99; margin 0;");
        Check.same("a loss in the tick 4", x.nextLoss(), 4);
        x.pass(4);
        Check.same("a loss in the next tick", x.nextLoss(), 4);
        x.pass(1);
        Check.same("no loss any more", x.nextLoss(), -1);
        RefreshTrader weak = Memory.of("memory 1 2 99 99; weak 0 0 1 0; weak 0 1 1 0; margin 0;");
        Check.same("the earliest loss there is", weak.nextLoss(), 1);
    }

    /** "NONE if there would be none in the next 300 ticks." */
    private static void nextLossInTheLastTick() {
        // All rows pass the bound in the tick 400 but those that debts or the margin refresh ahead of it.
        RefreshTrader x = Memory.of("memory 1 16 400 99; margin 0;");
        x.pass(100);
        Check.same("300 ticks end with 399", x.nextLoss(), -1);
        x.pass(1);
        Check.same("300 ticks end with 400", x.nextLoss(), 400);
    }

    /** "ticks: 1 to 300" */
    private static void lossesInTheFewestAndMostTicks() {
        RefreshTrader x = Memory.of("memory 1 6 4 99; margin 20;");
        Check.same("1 tick", x.lossesAhead(1), 0);
        Check.same("4 ticks", x.lossesAhead(4), 0);
        Check.same("5 ticks", x.lossesAhead(5), 1);
        Check.same("300 ticks", x.lossesAhead(300), 296);
        x.pass(4);
        Check.same("the next tick", x.lossesAhead(1), 1);
        Check.same("300 ticks then", x.lossesAhead(300), 300);
    }

    /** "Returns the least value in its range; NONE if there is none." */
    private static void leastSettingAtBothEnds() {
        for (int what = 0; what < 7; what++) {
            RefreshTrader calm = Memory.of("memory 1 1 99 99;");
            calm.set(what, Texts.GREATEST[what]);
            Check.same("the least of all", calm.leastSetting(what, 1), Texts.LEAST[what]);
            RefreshTrader full = Memory.of("memory 1 2 99 99; margin 0; weak 0 0 1 0; weak 0 1 1 0;");
            full.pass(1);
            Check.same("none in one tick", full.leastSetting(what, 1), -1);
        }
        // With one refresh a tick, 21 rows need to begin 20 ticks ahead, and 22 rows are too many.
        RefreshTrader rows21 = Memory.of("memory 3 7 20 99; margin 7;");
        Check.same("21 rows in 20 ticks", rows21.leastSetting(MARGIN, 20), 0);
        Check.same("21 rows in 21 ticks", rows21.leastSetting(MARGIN, 21), 20);
        Check.same("21 rows in 300 ticks", rows21.leastSetting(MARGIN, 300), 20);
        RefreshTrader rows22 = Memory.of("memory 2 11 20 99;");
        Check.same("22 rows in 20 ticks", rows22.leastSetting(MARGIN, 20), 0);
        Check.same("22 rows in 21 ticks", rows22.leastSetting(MARGIN, 21), -1);
        Check.same("22 rows in 300 ticks", rows22.leastSetting(MARGIN, 300), -1);
        Check.same("the margin stays", rows21.setting(MARGIN), 7);
    }

    private static void leastSettingOfHot() {
        String start = "memory 1 3 8 99; margin 0; gain ";
        String asks = ";";
        for (int tick = 0; tick < 8; tick++) {
            asks += "ask " + tick + " 0 0;";
        }
        // The heat is 98 ahead of the tick 7: the greatest hot alone leaves the bounds as they are.
        RefreshTrader x = Memory.of(start + 14 + asks);
        Check.same("just below the greatest hot", x.leastSetting(HOT, 8), 99);
        // The heat is 80 ahead of the tick 4 and 100 ahead of the tick 5.
        RefreshTrader y = Memory.of(start + 20 + asks);
        Check.same("no bound is too small in 4 ticks", y.leastSetting(HOT, 4), 1);
        Check.same("above the heat of 80", y.leastSetting(HOT, 5), 81);
        Check.same("the heat of 100 is above all", y.leastSetting(HOT, 6), -1);
    }

    private static void leastSettingOfSlots() {
        for (int banks = 1; banks <= 4; banks++) {
            RefreshTrader x = Memory.of("memory " + banks + " 1 4 99; margin 0;");
            Check.same("slots for " + banks + " banks", x.leastSetting(0, 5), banks);
            Check.same("slots for 4 ticks", x.leastSetting(0, 4), 1);
        }
    }

    /** "Returns the ticks from its coming to its serving" */
    private static void waitOfServedAtOnce() {
        RefreshTrader x = Memory.of("memory 1 1 99 99; ask 0 0 0; ask 0 0 0; ask 7 0 0;");
        int[] due = {0, 1, 0};
        for (int time = 0; time < 9; time++) {
            for (int request = 0; request < 3; request++) {
                Check.same("wait at " + time, x.waitOf(request), due[request]);
            }
            x.pass(1);
        }
    }

    /** "NONE if it would not be served in the next 300 ticks." */
    private static void waitOfTheLastTick() {
        RefreshTrader x = Memory.of("memory 1 1 99 99; ask 299 0 0; ask 300 0 0; ask 300 0 0;");
        Check.same("in the last of 300 ticks", x.waitOf(0), 0);
        Check.same("in the tick behind it", x.waitOf(1), -1);
        x.pass(1);
        Check.same("in the last of 300 ticks then", x.waitOf(1), 0);
        Check.same("in the tick behind that", x.waitOf(2), -1);
        x.pass(1);
        Check.same("in the last of 300 ticks at last", x.waitOf(2), 1);
        Memory.passTo(x, 2000);
        Check.same("served long ago", x.waitOf(0), 0);
        Check.same("served long ago with a wait", x.waitOf(2), 1);
        RefreshTrader never = Memory.of("memory 1 1 20 99; margin 20; ask 0 0 0;");
        Check.same("never served", never.waitOf(0), -1);
        Memory.passTo(never, 2000);
        Check.same("never served up to 2000", never.waitOf(0), -1);
        never.set(MARGIN, 0);
        Check.same("served at 2000", never.waitOf(0), 2000);
    }

    /** "Returns the losses without trading minus those with it." */
    private static void gainOfNothing() {
        for (int ticks : new int[] {1, 2, 299, 300}) {
            Check.same("one bank", new RefreshTrader().gainOfTrading(ticks), 0);
            RefreshTrader x = Memory.of("memory 1 6 4 99; margin 20;");
            Check.same("losses in both", x.gainOfTrading(ticks), 0);
            x.setTrading(true);
            Check.same("losses in both with trading", x.gainOfTrading(ticks), 0);
        }
    }

    private static void gainOfOneLoss() {
        // Bank 0 is hot for long; its unit of the tick 2 refreshes row 1 of bank 1 in the tick 3, so
        // that row 2 is the only one which is urgent in the tick 4.
        String less = "memory 2 3 999 2; slots 2; hot 1; gain 20; margin 0; ask 0 0 0;"
                + "weak 1 0 4 0; weak 1 1 4 0; weak 1 2 4 0;";
        // Bank 0 itself needs its unit of the tick 2, lest two rows be urgent in the tick 4.
        String more = "memory 2 3 8 2; slots 2; hot 1; gain 20; margin 0; ask 0 0 0;";
        for (String trading : new String[] {"", "trading;"}) {
            RefreshTrader x = Memory.of(less + trading);
            Check.same("no gain ahead of the tick 4", x.gainOfTrading(4), 0);
            Check.same("a loss less", x.gainOfTrading(5), 1);
            RefreshTrader y = Memory.of(more + trading);
            Check.same("no gain there either", y.gainOfTrading(4), 0);
            Check.same("a loss more", y.gainOfTrading(5), -1);
            Check.same("trading stays", y.size(9), trading.isEmpty() ? 0 : 1);
        }
    }

    // ---- promises 18 to 21: sums

    /** "divided by their number; 0.0 without any" */
    private static void meanWithoutAny() {
        RefreshTrader x = Memory.of("memory 1 1 99 99; ask 5 0 0;");
        Check.same("mean without any", x.meanWait(), 0.0);
        x.ask(0, 0);
        Check.same("mean while one waits", x.meanWait(), 0.0);
        x.pass(1);
        Check.same("mean of one wait of 0", x.meanWait(), 0.0);
        x.undo();
        x.undo();
        Check.same("mean without any again", x.meanWait(), 0.0);
        RefreshTrader one = Memory.of("memory 1 1 20 99; margin 20; ask 0 0 0;");
        one.pass(7);
        Check.same("mean while one waits long", one.meanWait(), 0.0);
        one.set(MARGIN, 0);
        one.pass(1);
        Check.same("mean of one wait of 7", one.meanWait(), 7.0);
    }

    /** "the sum ..., converted to double, divided by their number" */
    private static void meanIsNotTruncated() {
        RefreshTrader x = Memory.of("memory 1 1 99 99;" + "ask 0 0 0;".repeat(4));
        double[] due = {0.0, 0.5, 1.0, 1.5};
        for (double mean : due) {
            x.pass(1);
            Check.same("mean", x.meanWait(), mean);
        }
        x.pass(5);
        x.ask(0, 0);
        x.ask(0, 0);
        x.ask(0, 0);
        x.pass(3);
        Check.same("mean of seven", x.meanWait(), 9.0 / 7.0);
        RefreshTrader late = Memory.of("memory 1 1 20 99; margin 20;");
        for (int i = 0; i < 40; i++) {
            late.ask(0, 0);
        }
        Memory.passTo(late, 1960);
        late.set(MARGIN, 0);
        late.pass(40);
        Check.same("the greatest mean of 40", late.meanWait(), 1979.5);
        Check.same("the greatest wait of 40", late.greatestWait(), 1999);
    }

    /** "NONE if none was served" */
    private static void greatestWithoutAny() {
        RefreshTrader x = Memory.of("memory 1 1 99 99; ask 5 0 0;");
        Check.same("greatest without any", x.greatestWait(), -1);
        x.ask(0, 0);
        Check.same("greatest while one waits", x.greatestWait(), -1);
        x.pass(1);
        Check.same("greatest of one wait of 0", x.greatestWait(), 0);
        x.undo();
        Check.same("greatest without any again", x.greatestWait(), -1);
        x.ask(0, 0);
        x.pass(2);
        Check.same("greatest of 0 and 1", x.greatestWait(), 1);
        x.pass(9);
        Check.same("greatest of 0, 1 and 0", x.greatestWait(), 1);
    }

    /** "(It always is so.)" */
    private static void wholeAtBothEnds() {
        Check.holds("whole at first", new RefreshTrader().isWhole());
        RefreshTrader ahead = Memory.of("memory 4 1 4 99; margin 20; slots 4;");
        Memory.passTo(ahead, 2000);
        Check.same("far ahead", ahead.bank(3, 0), -1980);
        Check.holds("whole far ahead", ahead.isWhole());
        RefreshTrader behind = Memory.of("memory 4 1 999 1;");
        Memory.passTo(behind, 2000);
        Check.same("debts that came", behind.account(0), 7996);
        Check.holds("whole far behind", behind.isWhole());
    }

    /** "Returns a sum since parse." */
    private static void accountSinceParse() {
        RefreshTrader x = Memory.of("memory 2 3 4 1; ahead 1; margin 0; ask 0 0 0;");
        x.trade(0, 1);
        x.pass(20);
        for (int what = 0; what < 6; what++) {
            Check.holds("account " + what + " is above 0", x.account(what) > 0);
        }
        Memory.parse(x, "memory 2 3 4 1; !");
        Check.holds("an error leaves the sums", x.account(0) > 0);
        Memory.parse(x, "memory 2 3 4 1;");
        for (int what = 0; what < 6; what++) {
            Check.same("account " + what + " since parse", x.account(what), 0);
        }
    }

    // ---- promises 22 to 26: changes

    /** "ticks: 1 to 200" */
    private static void passFewestAndMost() {
        RefreshTrader x = Memory.of("memory 1 6 4 99; margin 20;");
        Check.noArgument("0 ticks", () -> x.pass(0));
        Check.noArgument("201 ticks", () -> x.pass(201));
        Check.same("no losses in 1 tick", x.pass(1), 0);
        Check.same("losses in 200 ticks", x.pass(200), 197);
        Check.same("the time", x.size(4), 201);
        Check.same("two changes", x.size(10), 2);
    }

    /** "Throws IllegalStateException if the time would be greater than 2000" */
    private static void passUpTo2000() {
        RefreshTrader x = Memory.of("memory 1 1 99 99;");
        Memory.passTo(x, 1801);
        Check.noState("200 ticks from 1801", () -> x.pass(200));
        Check.same("the time stays", x.size(4), 1801);
        Check.noArgument("201 ticks from 1801", () -> x.pass(201));
        Check.same("199 ticks from 1801", x.pass(199), 0);
        Check.same("the time is 2000", x.size(4), 2000);
        Check.noState("1 tick from 2000", () -> x.pass(1));
        Check.noArgument("0 ticks from 2000", () -> x.pass(0));
        x.undo();
        x.undo();
        Memory.passTo(x, 1800);
        Check.same("200 ticks from 1800", x.pass(200), 0);
        Check.same("the time is 2000 again", x.size(4), 2000);
        Check.noState("200 ticks from 2000", () -> x.pass(200));
        Check.same("ask at 2000", x.ask(0, 0), 0);
        Check.same("it came at 2000", x.request(0, 2), 2000);
    }

    /** "Throws IllegalStateException if there are 40 requests" */
    private static void askUpTo40() {
        RefreshTrader x = Memory.of("memory 2 2 99 99;" + "ask 999 1 1;".repeat(20));
        for (int request = 20; request < 40; request++) {
            Check.same("its number", x.ask(0, 1), request);
        }
        Check.noState("a request 41", () -> x.ask(0, 1));
        Check.noIndex("a request 41 for no bank", () -> x.ask(2, 0));
        Check.noIndex("a request 41 for no row", () -> x.ask(0, 2));
        Check.same("requests", x.size(5), 40);
        Check.same("changes", x.size(10), 10);
        x.pass(30);
        Check.noState("a request 41 when others are served", () -> x.ask(0, 1));
        x.undo();
        x.undo();
        Check.same("a request 40 again", x.ask(1, 0), 39);
        RefreshTrader none = Memory.of("memory 1 1 99 99;");
        Check.same("the first request", none.ask(0, 0), 0);
    }

    /** "it waits from now on, behind all others of its bank that wait" */
    private static void askBehindAllOthers() {
        RefreshTrader x = Memory.of("memory 2 1 99 99; ask 0 0 0; ask 0 0 0; ask 0 0 0; ask 1 0 0;");
        Check.same("first of none", x.waiting(0, 0), -1);
        Check.same("asked", x.ask(0, 0), 4);
        Check.same("it waits from now on", x.request(4, 3), 1);
        Check.same("first of one", x.waiting(0, 0), 4);
        x.pass(1);
        Check.same("asked then", x.ask(0, 0), 5);
        int[] line = {0, 1, 2, 5, -1};
        for (int k = 0; k < line.length; k++) {
            Check.same("in line", x.waiting(0, k), line[k]);
        }
        x.pass(1);
        int[] then = {1, 2, 5, 3, -1};
        for (int k = 0; k < then.length; k++) {
            Check.same("in line then", x.waiting(0, k), then[k]);
        }
    }

    /** "if the other one ... has a debt of most or more" */
    private static void tradeUpToMost() {
        for (int m = 1; m <= 8; m++) {
            int most = m;
            RefreshTrader x = Memory.of("memory 2 1 99 99; ahead 8; most " + most + ";");
            for (int debt = 1; debt <= most; debt++) {
                Check.same("the debt of the other one", x.trade(0, 1), debt);
            }
            Check.noState("a debt of most", () -> x.trade(0, 1));
            Check.same("its debt stays", x.bank(1, 0), most);
            Check.same("that of the first one stays", x.bank(0, 0), -most);
            if (most > 1) {
                x.set(MOST, most - 1);
                Check.noState("a debt of more than most", () -> x.trade(0, 1));
            }
        }
    }

    /** "or the debt of the first one is -ahead or less" */
    private static void tradeDownToAhead() {
        for (int a = 0; a <= 8; a++) {
            int ahead = a;
            RefreshTrader x = Memory.of("memory 2 1 99 99; most 8; ahead " + ahead + ";");
            for (int debt = 1; debt <= ahead; debt++) {
                Check.same("the debt of the other one", x.trade(1, 0), debt);
            }
            x.set(MOST, 8);
            Check.noState("a debt of -ahead", () -> x.trade(1, 0));
            if (ahead > 0) {
                x.set(AHEAD, ahead - 1);
                Check.noState("a debt of less than -ahead", () -> x.trade(1, 0));
            }
            Check.same("its debt stays", x.bank(1, 0), -ahead);
        }
        RefreshTrader one = Memory.of("memory 2 1 99 1; slots 1;");
        one.pass(2);
        Check.same("a debt of 1", one.bank(1, 0), 1);
        Check.same("a debt of 1 with ahead 0", one.trade(1, 0), 1);
        Check.noState("a debt of 0 with ahead 0", () -> one.trade(1, 0));
    }

    /** "Throws IllegalStateException if the other one is hot" */
    private static void tradeToHotBanks() {
        RefreshTrader x = Memory.of("memory 2 1 99 99; gain 5; ahead 8; ask 0 1 0; ask 1 0 0;");
        x.pass(2);
        Check.same("the heat of bank 1", x.bank(1, 1), 4);
        x.set(HOT, 4);
        Check.noState("to a bank with a heat of hot", () -> x.trade(0, 1));
        x.set(HOT, 3);
        Check.noState("to a bank with a heat above hot", () -> x.trade(0, 1));
        x.set(HOT, 5);
        int before = x.bank(1, 0);
        Check.same("to a bank with a heat below hot", x.trade(0, 1), before + 1);
        Check.noState("the first one is hot, as is the other", () -> x.trade(1, 0));
        x.set(HOT, 6);
        x.trade(1, 0);
        x.set(HOT, 5);
        Check.same("the first one alone is hot", x.trade(0, 1), before + 1);
    }

    /** "(checked first) ... (checked second)" */
    private static void tradeExceptionsInOrder() {
        RefreshTrader x = Memory.of("memory 2 1 99 99;");
        Check.noIndex("no such bank", () -> x.trade(2, 0));
        Check.noIndex("no such other", () -> x.trade(0, 2));
        Check.noIndex("no such bank with itself", () -> x.trade(2, 2));
        Check.noIndex("bank -1 with itself", () -> x.trade(-1, -1));
        Check.noArgument("with itself, and no debt", () -> x.trade(0, 0));
        Check.noState("no debt", () -> x.trade(0, 1));
    }

    /** "value: in its range" */
    private static void setAtBothEnds() {
        for (int w = 0; w < 7; w++) {
            int what = w;
            RefreshTrader x = new RefreshTrader();
            Check.noArgument("below the least", () -> x.set(what, Texts.LEAST[what] - 1));
            Check.noArgument("above the greatest", () -> x.set(what, Texts.GREATEST[what] + 1));
            Check.same("no change", x.size(10), 0);
            int previous = Texts.NOT_TOLD[what];
            for (int value = Texts.LEAST[what]; value <= Texts.GREATEST[what]; value++) {
                Check.same("the previous value", x.set(what, value), previous);
                Check.same("the value", x.setting(what), value);
                previous = value;
            }
            Check.same("the same value again", x.set(what, previous), previous);
        }
    }

    /** "Returns whether it was so before." */
    private static void setTradingTwice() {
        RefreshTrader x = new RefreshTrader();
        Check.same("off to off", x.setTrading(false), false);
        Check.same("off to on", x.setTrading(true), false);
        Check.same("on to on", x.setTrading(true), true);
        Check.same("on to off", x.setTrading(false), true);
        Check.same("four changes", x.size(10), 4);
        x.undo();
        Check.same("on again", x.size(9), 1);
    }
}
