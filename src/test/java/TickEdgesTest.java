/**
 * The boundary cases of what the document says under ROWS, REQUESTS and A TICK, one test for each
 * sentence that names one. Each memory is small enough to be worked out by hand.
 */
public final class TickEdgesTest {
    private static final int DEBT = 0;
    private static final int HEAT = 1;
    private static final int GIVEN = 5;
    private static final int TAKEN = 6;
    private static final int WISH = 7;
    private static final int GRANTED = 8;

    private static final int AGE = 0;
    private static final int BOUND = 1;
    private static final int REMAINS = 2;
    private static final int LOST = 3;
    private static final int LOSSES = 6;

    private static final int MOST = 1;
    private static final int AHEAD = 2;
    private static final int HOT = 3;
    private static final int PATIENCE = 5;
    private static final int MARGIN = 6;

    public static void main(String[] args) {
        ageAtFirst();
        ageSinceTouched();
        weakFromItsTick();
        weakFromTheLastTick();
        lesserBound();
        halfBound();
        hotFromItsHeat();
        remainsBelowZero();
        lostAboveTheBound();
        lostByStep7Alone();
        lostUntilTouched();
        lostAgain();
        requestComesAtItsTick();
        requestsInOrder();
        askedRequestsInOrder();
        noDebtAtTimeZero();
        debtAtMultiples();
        tradedWithDebtAboveZero();
        tradedByHotBanks();
        takenBelowMost();
        takenByBanksThatAreNotHot();
        takenByTheCoolest();
        takenByAnotherBank();
        tradedBehindLowerBanks();
        urgentAtTheMargin();
        impatientAtThePatience();
        forcedAtMost();
        refreshByDebtAboveZero();
        refreshAboveAhead();
        firstWishThatApplies();
        weakestRowOfABank();
        slotsOfEqualWishes();
        slotsByOneThatRemains();
        slotsByOneOfDebt();
        slotForUrgentFirst();
        serviceNeedsNoSlot();
        notGranted();
        debtWithoutLowerEnd();
        heatWithoutUpperEnd();
        heatNotBelowZero();
        timeRises();
        Check.end();
    }

    private static void banks(String name, RefreshTrader x, int what, int... due) {
        for (int bank = 0; bank < due.length; bank++) {
            Check.same(name + ", bank " + bank, x.bank(bank, what), due[bank]);
        }
    }

    private static void rows(String name, RefreshTrader x, int bank, int what, int... due) {
        for (int row = 0; row < due.length; row++) {
            Check.same(name + ", row " + row, x.row(bank, row, what), due[row]);
        }
    }

    // ---- ROWS

    /** "The age of a row is the number of ticks since it was touched ..., at first 0." */
    private static void ageAtFirst() {
        RefreshTrader x = Memory.of("memory 4 16 9 9;");
        for (int bank = 0; bank < 4; bank++) {
            for (int row = 0; row < 16; row++) {
                Check.same("age at first", x.row(bank, row, AGE), 0);
                Check.same("what remains at first", x.row(bank, row, REMAINS), 9);
                Check.same("not lost at first", x.row(bank, row, LOST), 0);
            }
        }
    }

    private static void ageSinceTouched() {
        RefreshTrader x = Memory.of("memory 1 3 99 99; ask 0 0 1; ask 1 0 2;");
        x.pass(1);
        rows("age behind one tick", x, 0, AGE, 1, 0, 1);
        x.pass(1);
        rows("age behind two ticks", x, 0, AGE, 2, 1, 0);
        x.pass(1);
        rows("age behind three ticks", x, 0, AGE, 3, 2, 1);
    }

    /** "if it is weak and the time is at least its tick" */
    private static void weakFromItsTick() {
        RefreshTrader x = Memory.of("memory 1 3 9 99; margin 0; weak 0 0 5 3; weak 0 1 5 0;");
        rows("bound at the time 0", x, 0, BOUND, 9, 5, 9);
        x.pass(2);
        rows("bound at the time 2", x, 0, BOUND, 9, 5, 9);
        x.pass(1);
        rows("bound at the time 3", x, 0, BOUND, 5, 5, 9);
        rows("weak from", x, 0, 8, 3, 0, -1);
    }

    private static void weakFromTheLastTick() {
        RefreshTrader x = Memory.of("memory 1 1 999 99; weak 0 0 5 999;");
        Memory.passTo(x, 998);
        rows("bound at the time 998", x, 0, BOUND, 999);
        x.pass(1);
        rows("bound at the time 999", x, 0, BOUND, 5);
    }

    /** "the lesser one of that and its own bound" */
    private static void lesserBound() {
        RefreshTrader x = Memory.of("memory 1 4 9 99; weak 0 0 8 0; weak 0 1 9 0; weak 0 2 10 0; weak 0 3 999 0;");
        rows("bound", x, 0, BOUND, 8, 9, 9, 9);
        rows("own bound", x, 0, 7, 8, 9, 10, 999);
    }

    /** "If its bank is hot, the bound is half of this, but at least 1." */
    private static void halfBound() {
        RefreshTrader x = Memory.of("memory 2 7 999 99; hot 1; gain 1; margin 0; weak 0 0 1 0; weak 0 1 2 0;"
                + "weak 0 2 3 0; weak 0 3 4 0; weak 0 4 5 0; weak 0 5 998 0; weak 1 0 1 0; ask 0 0 6;");
        rows("bound while it is cool", x, 0, BOUND, 1, 2, 3, 4, 5, 998, 999);
        x.pass(1);
        rows("bound while it is hot", x, 0, BOUND, 1, 1, 1, 2, 2, 499, 499);
        rows("bound of the cool bank", x, 1, BOUND, 1, 999);
    }

    /** "A bank is hot if its heat is at least hot." */
    private static void hotFromItsHeat() {
        RefreshTrader x = Memory.of("memory 2 1 20 99; gain 5; ask 0 0 0;");
        x.pass(1);
        int[] hots = {1, 4, 5, 6, 99};
        int[] due = {1, 1, 1, 0, 0};
        for (int i = 0; i < hots.length; i++) {
            x.set(HOT, hots[i]);
            Check.same("hot banks with hot " + hots[i], x.size(8), due[i]);
            Check.same("bound with hot " + hots[i], x.row(0, 0, BOUND), due[i] == 1 ? 10 : 20);
            Check.same("a heat of 0 is not hot", x.row(1, 0, BOUND), 20);
        }
    }

    /** "What remains of a row is its bound minus its age." */
    private static void remainsBelowZero() {
        RefreshTrader x = Memory.of("memory 1 3 4 99; margin 0;");
        x.pass(4);
        rows("just nothing remains", x, 0, REMAINS, 0, 0, 0);
        x.pass(1);
        rows("less than nothing remains", x, 0, REMAINS, 4, -1, -1);
        x.pass(1);
        rows("still less remains", x, 0, REMAINS, 3, 4, -2);
    }

    /** "A row becomes lost by step 7 of a tick alone, if its age is greater than its bound then" */
    private static void lostAboveTheBound() {
        RefreshTrader x = Memory.of("memory 1 2 4 99; margin 0;");
        Check.same("no loss with the age 4", x.pass(4), 0);
        rows("the bound is reached", x, 0, LOST, 0, 0);
        Check.same("a loss with the age 5", x.pass(1), 1);
        rows("the bound is passed", x, 0, LOST, 0, 1);
        Check.same("rows that are lost", x.size(7), 1);
    }

    private static void lostByStep7Alone() {
        // The bank becomes hot in the tick 5, behind step 7's bounds: of rows 1 and 2 remains -2 then.
        RefreshTrader x = Memory.of("memory 1 3 9 99; hot 9; gain 9; margin 0; ask 5 0 0;");
        Check.same("no loss by the heat", x.pass(6), 0);
        rows("what remains", x, 0, REMAINS, 4, -2, -2);
        rows("but not lost", x, 0, LOST, 0, 0, 0);
        x.set(HOT, 10);
        rows("what remains with hot 10", x, 0, REMAINS, 9, 3, 3);
        x.set(HOT, 9);
        rows("nor lost by set", x, 0, LOST, 0, 0, 0);
        Check.same("the next loss", x.nextLoss(), 6);
        Check.same("a loss by step 7", x.pass(1), 1);
        rows("lost then", x, 0, LOST, 0, 0, 1);
    }

    /** "it stays lost until it is touched" */
    private static void lostUntilTouched() {
        RefreshTrader x = Memory.of("memory 1 3 9 99; hot 9; gain 9; margin 0; ask 5 0 0;");
        x.pass(7);
        // The bank is cool again, and of row 2 something remains, but it was lost in the tick 6.
        rows("what remains", x, 0, REMAINS, 8, 9, 2);
        rows("it stays lost", x, 0, LOST, 0, 0, 1);
        x.ask(0, 2);
        rows("a request alone does not touch it", x, 0, LOST, 0, 0, 1);
        x.pass(1);
        rows("an access touches it", x, 0, LOST, 0, 0, 0);
        rows("its losses stay", x, 0, LOSSES, 0, 0, 1);
        RefreshTrader y = Memory.of("memory 1 3 4 99; margin 0;");
        y.pass(5);
        rows("two rows are lost", y, 0, LOST, 0, 1, 1);
        y.pass(1);
        rows("a refresh touches the first of them", y, 0, LOST, 0, 0, 1);
        y.pass(1);
        rows("and then the second", y, 0, LOST, 0, 0, 0);
    }

    private static void lostAgain() {
        // One refresh a tick for six rows with a bound of 4: each row is lost in every six ticks.
        RefreshTrader x = Memory.of("memory 1 6 4 99; margin 20;");
        Check.same("no loss in 4 ticks", x.pass(4), 0);
        Check.same("one loss in each tick then", x.pass(6), 6);
        rows("each row was lost once", x, 0, LOSSES, 1, 1, 1, 1, 1, 1);
        Check.same("the next loss", x.pass(1), 1);
        rows("row 5 was lost again", x, 0, LOSSES, 1, 1, 1, 1, 1, 2);
        Check.same("a lost row is no loss again", x.account(3), 7);
    }

    // ---- REQUESTS

    /** "It comes at a tick, and then waits until it is served." "1. Requests whose tick is t come." */
    private static void requestComesAtItsTick() {
        RefreshTrader x = Memory.of("memory 1 2 999 99; ask 0 0 0; ask 1 0 1; ask 999 0 0;");
        Check.same("to come ahead of the tick 0", x.request(0, 3), 0);
        Check.same("none waits", x.size(6), 0);
        x.pass(1);
        Check.same("served in the tick 0", x.request(0, 4), 0);
        Check.same("to come ahead of the tick 1", x.request(1, 3), 0);
        x.pass(1);
        Check.same("served in the tick 1", x.request(1, 4), 1);
        Memory.passTo(x, 999);
        Check.same("to come ahead of the tick 999", x.request(2, 3), 0);
        x.pass(1);
        Check.same("served in the tick 999", x.request(2, 4), 999);
    }

    /** "in the order in which they came; of those that come by step 1 of one tick, ... the lower number first" */
    private static void requestsInOrder() {
        RefreshTrader x = Memory.of("memory 1 2 999 99; ask 2 0 0; ask 1 0 1; ask 0 0 0; ask 1 0 0; ask 0 0 1;");
        x.pass(5);
        int[] servedAt = {4, 2, 0, 3, 1};
        for (int request = 0; request < servedAt.length; request++) {
            Check.same("request " + request + " was served at", x.request(request, 4), servedAt[request]);
        }
    }

    /** "(One that ask() adds ahead of a tick came ahead of those of that step.)" */
    private static void askedRequestsInOrder() {
        RefreshTrader x = Memory.of("memory 1 2 999 99; ask 0 0 0; ask 1 0 1; ask 1 0 0;");
        x.ask(0, 0);
        x.ask(0, 1);
        x.pass(1);
        Check.same("asked at the time 0", x.request(3, 4), 0);
        x.ask(0, 1);
        x.pass(5);
        int[] servedAt = {2, 4, 5, 0, 1, 3};
        for (int request = 0; request < servedAt.length; request++) {
            Check.same("request " + request + " was served at", x.request(request, 4), servedAt[request]);
        }
    }

    // ---- steps 2 and 3

    /** "2. If t is greater than 0 and a multiple of interval" */
    private static void noDebtAtTimeZero() {
        RefreshTrader x = Memory.of("memory 3 1 50 1;");
        x.pass(1);
        Check.same("no debts in the tick 0", x.account(0), 0);
        banks("debt", x, DEBT, 0, 0, 0);
        x.pass(1);
        Check.same("debts in the tick 1", x.account(0), 3);
        banks("debt behind one refresh", x, DEBT, 0, 1, 1);
    }

    private static void debtAtMultiples() {
        for (int interval : new int[] {1, 2, 7, 98, 99}) {
            RefreshTrader x = Memory.of("memory 2 1 999 " + interval + ";");
            for (int k = 1; k <= 3; k++) {
                Memory.passTo(x, k * interval);
                Check.same("debts ahead of the tick " + k * interval, x.account(0), 2 * (k - 1));
                x.pass(1);
                Check.same("debts of the tick " + k * interval, x.account(0), 2 * k);
            }
        }
    }

    /** Bank 0 gets a heat of 5 in the tick 0 and has this debt in the tick 1; bank 1 is cool. */
    private static RefreshTrader hotWithDebt(int debt, int hot) {
        RefreshTrader x = Memory.of("memory 2 1 99 99; trading; gain 5; ask 0 0 0;");
        x.set(HOT, hot);
        x.set(AHEAD, 1);
        if (debt == 1) {
            x.trade(1, 0);
        } else if (debt == -1) {
            x.trade(0, 1);
        }
        x.set(AHEAD, 0);
        x.pass(1);
        Check.same("heat", x.bank(0, HEAT), 5);
        Check.same("debt", x.bank(0, DEBT), debt);
        return x;
    }

    /** "for each bank ... that is hot and has a debt greater than 0" */
    private static void tradedWithDebtAboveZero() {
        RefreshTrader one = hotWithDebt(1, 5);
        one.pass(1);
        banks("given with the debt 1", one, GIVEN, 1, 1);
        banks("taken with the debt 1", one, TAKEN, 1, 1);
        banks("debt behind it", one, DEBT, 0, 0);
        RefreshTrader zero = hotWithDebt(0, 5);
        zero.pass(1);
        banks("given with the debt 0", zero, GIVEN, 0, 0);
        RefreshTrader less = hotWithDebt(-1, 5);
        less.pass(1);
        banks("given with the debt -1", less, GIVEN, 1, 0);
        Check.same("traded by trade alone", less.account(4), 1);
    }

    private static void tradedByHotBanks() {
        RefreshTrader hot = hotWithDebt(1, 4);
        hot.pass(1);
        banks("given with a heat above hot", hot, GIVEN, 1, 1);
        RefreshTrader cool = hotWithDebt(1, 6);
        cool.pass(1);
        banks("given with a heat below hot", cool, GIVEN, 0, 1);
        banks("it refreshes instead", cool, WISH, 5, 0);
        RefreshTrader off = hotWithDebt(1, 5);
        off.setTrading(false);
        off.pass(1);
        banks("given without trading", off, GIVEN, 0, 1);
    }

    /** "of those that ... have a debt less than most" */
    private static void takenBelowMost() {
        for (int debt = 1; debt <= 2; debt++) {
            RefreshTrader x = Memory.of("memory 3 1 99 99; trading; hot 5; gain 5; most 2; ask 0 0 0;");
            x.set(AHEAD, 8);
            x.trade(2, 0);
            x.set(AHEAD, 0);
            x.pass(1);
            x.set(AHEAD, 8);
            for (int i = 0; i < debt; i++) {
                x.trade(2, 1);
            }
            x.set(AHEAD, 0);
            banks("debts with hot bank 0", x, DEBT, 1, debt, -1 - debt);
            x.pass(1);
            banks("given", x, GIVEN, 1, 0, 1 + debt);
            // Bank 1 is ahead of bank 2 only while its debt is less than most.
            banks("taken with the debt " + debt, x, TAKEN, 1, 2, debt - 1);
        }
    }

    /** "of those that are not hot ...; if there is none, it stays." */
    private static void takenByBanksThatAreNotHot() {
        RefreshTrader both = Memory.of("memory 2 1 99 99; trading; hot 5; gain 5; ask 0 0 0; ask 0 1 0;");
        both.set(AHEAD, 1);
        both.trade(1, 0);
        both.set(AHEAD, 0);
        both.pass(1);
        banks("both have the heat", both, HEAT, 5, 5);
        both.pass(1);
        banks("it stays", both, GIVEN, 0, 1);
        banks("it is refreshed", both, DEBT, 0, -1);
        RefreshTrader one = Memory.of("memory 2 1 99 99; trading; hot 5; gain 5; ask 0 1 0; ask 1 0 0;");
        one.pass(1);
        one.set(AHEAD, 8);
        one.trade(1, 0);
        one.set(AHEAD, 0);
        one.pass(1);
        banks("one less than hot", one, HEAT, 5, 4);
        one.pass(1);
        banks("it goes there", one, TAKEN, 1, 1);
    }

    /** "to the one with the least heat (of several the lowest)" */
    private static void takenByTheCoolest() {
        // In the tick 5 all have a debt of 1; bank 3 has a heat of 5, and those asked at 0 one of 1.
        String text = "memory 4 1 99 5; trading; hot 5; gain 5; ask 4 3 0;";
        String[] asks = {"", "ask 0 0 0;", "ask 0 1 0;", "ask 0 0 0; ask 0 1 0;", "ask 0 0 0; ask 0 1 0; ask 0 2 0;"};
        int[] takers = {0, 1, 0, 2, 0};
        for (int i = 0; i < asks.length; i++) {
            RefreshTrader x = Memory.of(text + asks[i]);
            x.pass(6);
            for (int bank = 0; bank < 4; bank++) {
                Check.same("taken by bank " + bank + " with " + asks[i], x.bank(bank, TAKEN),
                        bank == takers[i] ? 1 : 0);
            }
            banks("given", x, GIVEN, 0, 0, 0, 1);
        }
    }

    /** "one unit of its debt goes to another bank" */
    private static void takenByAnotherBank() {
        RefreshTrader x = Memory.of("memory 1 1 99 1; trading; hot 1; gain 9; ask 0 0 0; ask 1 0 0;");
        x.pass(5);
        Check.same("a bank alone trades nothing", x.account(4), 0);
    }

    /** "(The debts are those behind what lower banks traded in this step.)" */
    private static void tradedBehindLowerBanks() {
        for (int most = 2; most <= 3; most++) {
            // In the tick 2 all have a debt of 1; banks 0 and 2 are hot, bank 1 takes up to most.
            RefreshTrader x = Memory.of("memory 3 1 99 2; trading; hot 1; gain 3; most " + most
                    + "; ask 0 0 0; ask 1 2 0;");
            x.pass(3);
            banks("given with most " + most, x, GIVEN, 1, 0, most - 2);
            banks("taken with most " + most, x, TAKEN, 0, most - 1, 0);
        }
    }

    // ---- step 4

    /** "1 (urgent) to refresh a row of which margin or less remains" */
    private static void urgentAtTheMargin() {
        RefreshTrader x = Memory.of("memory 1 1 9 99;");
        x.set(MARGIN, 8);
        Check.same("9 remain, margin 8", x.next(0, 0), 0);
        x.set(MARGIN, 9);
        Check.same("9 remain, margin 9", x.next(0, 0), 1);
        x.set(MARGIN, 20);
        Check.same("9 remain, margin 20", x.next(0, 0), 1);
        x.set(MARGIN, 0);
        x.pass(8);
        Check.same("1 remains, margin 0", x.next(0, 0), 0);
        x.pass(1);
        Check.same("0 remain, margin 0", x.next(0, 0), 1);
        RefreshTrader y = Memory.of("memory 1 3 4 99; margin 0;");
        y.pass(5);
        Check.same("-1 remains, margin 0", y.next(0, 0), 1);
    }

    /** "2 to serve, if the first request of those that wait has waited patience ticks or more" */
    private static void impatientAtThePatience() {
        for (int patience : new int[] {1, 5, 99}) {
            // Urgent refreshes in all ticks keep the request of the tick 2 waiting.
            RefreshTrader x = Memory.of("memory 1 1 20 99; margin 20; patience " + patience + "; ask 2 0 0;");
            Memory.passTo(x, 2 + patience - 1);
            x.set(MARGIN, 0);
            Check.same("it waited less than " + patience, x.next(0, 0), 4);
            x.set(MARGIN, 20);
            x.pass(1);
            x.set(MARGIN, 0);
            Check.same("it waited " + patience, x.next(0, 0), 2);
        }
        RefreshTrader asked = Memory.of("memory 1 1 20 99; margin 20; patience 1;");
        asked.pass(7);
        asked.ask(0, 0);
        asked.set(MARGIN, 0);
        Check.same("it comes now", asked.next(0, 0), 4);
        asked.set(MARGIN, 20);
        asked.pass(1);
        asked.set(MARGIN, 0);
        Check.same("it came a tick ago", asked.next(0, 0), 2);
    }

    /** "3 (forced) to refresh, if the debt is at least most" */
    private static void forcedAtMost() {
        RefreshTrader x = Memory.of("memory 2 1 50 99; ahead 8; most 8;");
        for (int debt = 1; debt <= 8; debt++) {
            Check.same("debt", x.trade(0, 1), debt);
            Check.same("wish with most 8", x.next(1, 0), debt == 8 ? 3 : 5);
        }
        x.set(MOST, 7);
        Check.same("the debt is above most", x.next(1, 0), 3);
        x.set(MOST, 1);
        Check.same("the debt is far above most", x.next(1, 0), 3);
        RefreshTrader one = Memory.of("memory 1 1 50 1; most 1;");
        Check.same("no debt", one.next(0, 0), 0);
        one.pass(1);
        Check.same("a debt of 1 with most 1", one.next(0, 0), 3);
    }

    /** "5 to refresh, if the debt is greater than 0" */
    private static void refreshByDebtAboveZero() {
        RefreshTrader x = Memory.of("memory 2 1 50 99; ahead 1;");
        x.trade(0, 1);
        x.set(AHEAD, 0);
        Check.same("debt 1", x.next(1, 0), 5);
        Check.same("debt -1", x.next(0, 0), 0);
        x.undo();
        x.undo();
        x.set(AHEAD, 0);
        Check.same("debt 0", x.next(1, 0), 0);
    }

    /** "6 to refresh, if the debt is greater than -ahead; otherwise 0, none" */
    private static void refreshAboveAhead() {
        RefreshTrader x = Memory.of("memory 2 1 50 99; ahead 8; most 8;");
        for (int debt = 0; debt > -8; debt--) {
            Check.same("wish with the debt " + debt, x.next(0, 0), 6);
            x.trade(0, 1);
        }
        Check.same("wish with the debt -8", x.next(0, 0), 0);
        RefreshTrader one = Memory.of("memory 1 1 50 99; ahead 1;");
        Check.same("debt 0, ahead 1", one.next(0, 0), 6);
        one.pass(1);
        Check.same("debt -1, ahead 1", one.next(0, 0), 0);
        one.set(AHEAD, 2);
        Check.same("debt -1, ahead 2", one.next(0, 0), 6);
        one.set(AHEAD, 0);
        Check.same("debt -1, ahead 0", one.next(0, 0), 0);
    }

    /** "Each bank gets a wish, the first that applies" */
    private static void firstWishThatApplies() {
        RefreshTrader x = Memory.of("memory 2 1 20 99; margin 20; patience 1; most 1; ahead 8; ask 0 0 0;");
        x.pass(1);
        x.trade(1, 0);
        Check.same("the debt of bank 0", x.trade(1, 0), 1);
        Check.same("urgent ahead of all", x.next(0, 0), 1);
        x.set(MARGIN, 19);
        Check.same("impatient ahead of forced", x.next(0, 0), 2);
        x.set(PATIENCE, 2);
        Check.same("forced ahead of serving", x.next(0, 0), 3);
        x.set(MOST, 2);
        Check.same("serving ahead of a refresh", x.next(0, 0), 4);
        x.pass(1);
        Check.same("a refresh by debt ahead of one without", x.next(0, 0), 5);
        x.pass(1);
        Check.same("a refresh ahead", x.next(0, 0), 6);
        x.set(AHEAD, 0);
        Check.same("none", x.next(0, 0), 0);
    }

    /** "A refresh is always for the row of which the least remains, of several the lowest." */
    private static void weakestRowOfABank() {
        String text = "memory 1 16 99 99; ahead 1;";
        Check.same("all alike", Memory.of(text).next(0, 2), 0);
        Check.same("the last one", Memory.of(text + "weak 0 15 98 0;").next(0, 2), 15);
        Check.same("the lower one of two", Memory.of(text + "weak 0 15 98 0; weak 0 9 98 0;").next(0, 2), 9);
        Check.same("one less remains", Memory.of(text + "weak 0 15 97 0; weak 0 9 98 0;").next(0, 2), 15);
        Check.same("not weak yet", Memory.of(text + "weak 0 15 97 1; weak 0 9 98 0;").next(0, 2), 9);
        String urgent = "memory 1 3 9 99; margin 9;";
        Check.same("an urgent one", Memory.of(urgent).next(0, 2), 0);
        Check.same("the most urgent one", Memory.of(urgent + "weak 0 2 8 0;").next(0, 2), 2);
    }

    // ---- step 5

    /** "only slots are granted ...; of equal ones the lower bank first" */
    private static void slotsOfEqualWishes() {
        for (int slots = 1; slots <= 4; slots++) {
            String[] texts = {"memory 4 1 20 99; margin 20; slots ", "memory 4 1 99 1; most 1; slots ",
                "memory 4 1 99 1; slots ", "memory 4 1 99 99; ahead 1; slots "};
            int[] wishes = {1, 3, 5, 6};
            for (int i = 0; i < texts.length; i++) {
                RefreshTrader x = Memory.of(texts[i] + slots + ";");
                x.pass(wishes[i] == 3 || wishes[i] == 5 ? 2 : 1);
                for (int bank = 0; bank < 4; bank++) {
                    Check.same("wish", x.bank(bank, WISH), wishes[i]);
                    Check.same("granted to bank " + bank + " of " + slots, x.bank(bank, GRANTED),
                            bank < slots ? 1 : 0);
                    Check.same("age", x.row(bank, 0, AGE) == 0, bank < slots);
                }
                Check.same("refreshes", x.account(1), slots);
            }
        }
    }

    /** "first those of the kind 1 (by what remains of the row, the least first)" */
    private static void slotsByOneThatRemains() {
        RefreshTrader x = Memory.of("memory 3 1 20 99; margin 20; weak 2 0 19 0;");
        x.pass(1);
        banks("granted", x, GRANTED, 0, 0, 1);
        // Of banks 0 and 1 remain 19, of bank 2 remain 19 again.
        x.pass(1);
        banks("granted then", x, GRANTED, 1, 0, 0);
    }

    /** "(each of these three by the debt, the greatest first)" */
    private static void slotsByOneOfDebt() {
        RefreshTrader forced = Memory.of("memory 2 1 99 1; most 1;");
        RefreshTrader byDebt = Memory.of("memory 2 1 99 1; most 8;");
        RefreshTrader ahead = Memory.of("memory 2 1 99 99; ahead 8;");
        forced.pass(1);
        byDebt.pass(1);
        // Each refresh makes the debt of the other bank greater by one.
        for (int tick = 0; tick < 4; tick++) {
            forced.pass(1);
            byDebt.pass(1);
            ahead.pass(1);
            int first = tick % 2 == 0 ? 1 : 0;
            banks("forced", forced, WISH, 3, 3);
            banks("granted of forced", forced, GRANTED, first, 1 - first);
            banks("by debt", byDebt, WISH, 5, 5);
            banks("granted by debt", byDebt, GRANTED, first, 1 - first);
            banks("ahead", ahead, WISH, 6, 6);
            banks("granted ahead", ahead, GRANTED, first, 1 - first);
        }
    }

    /** "first those of the kind 1 ..., then 3, then 5, then 6" */
    private static void slotForUrgentFirst() {
        RefreshTrader x = Memory.of("memory 2 1 50 1; most 1; weak 1 0 3 0;");
        x.pass(2);
        banks("forced and urgent", x, WISH, 3, 1);
        banks("granted", x, GRANTED, 0, 1);
        RefreshTrader debt = Memory.of("memory 2 1 50 1; weak 1 0 3 0;");
        debt.pass(2);
        banks("by debt and urgent", debt, WISH, 5, 1);
        banks("granted then", debt, GRANTED, 0, 1);
        RefreshTrader three = Memory.of("memory 3 1 50 99; ahead 8; most 2;");
        three.trade(0, 1);
        three.trade(0, 2);
        three.trade(0, 2);
        three.pass(1);
        banks("ahead, by debt and forced", three, WISH, 6, 5, 3);
        banks("granted to forced", three, GRANTED, 0, 0, 1);
        three.undo();
        three.set(0, 2);
        three.pass(1);
        banks("granted to forced and by debt", three, GRANTED, 0, 1, 1);
        three.undo();
        three.set(0, 3);
        three.pass(1);
        banks("granted to all", three, GRANTED, 1, 1, 1);
    }

    /** "Wishes to serve are always granted." */
    private static void serviceNeedsNoSlot() {
        RefreshTrader x = Memory.of("memory 4 1 50 1; ask 1 0 0; ask 1 1 0;");
        x.pass(2);
        banks("wishes", x, WISH, 4, 4, 5, 5);
        banks("granted", x, GRANTED, 1, 1, 1, 0);
        RefreshTrader all = Memory.of("memory 4 1 50 99; ask 0 0 0; ask 0 1 0; ask 0 2 0; ask 0 3 0;");
        all.pass(1);
        banks("all serve", all, GRANTED, 1, 1, 1, 1);
        Check.same("served", all.account(5), 4);
    }

    /** "A bank whose wish is not granted serves the first request that waits, if there is one." */
    private static void notGranted() {
        RefreshTrader x = Memory.of("memory 3 2 20 99; margin 20; ask 0 1 1; ask 0 1 0;");
        Check.same("the row that bank 1 would touch", x.next(1, 2), 1);
        Check.same("the request that it would serve", x.next(1, 3), 0);
        Check.same("bank 2 would touch none", x.next(2, 2), -1);
        Check.same("nor serve one", x.next(2, 3), -1);
        x.pass(1);
        banks("wishes", x, WISH, 1, 1, 1);
        banks("granted", x, GRANTED, 1, 0, 0);
        banks("heat", x, HEAT, 0, 1, 0);
        banks("served", x, 3, 0, 1, 0);
        rows("ages of bank 1", x, 1, AGE, 1, 0);
        rows("ages of bank 2", x, 2, AGE, 1, 1);
    }

    // ---- steps 6 and 8

    /** "A refresh touches its row, and the debt falls by 1." An urgent one does not mind ahead. */
    private static void debtWithoutLowerEnd() {
        RefreshTrader x = Memory.of("memory 1 1 4 99; margin 20;");
        x.pass(200);
        Check.same("refreshes", x.account(1), 200);
        Check.same("debt", x.bank(0, DEBT), -198);
        Check.same("urgent ones", x.account(2), 200);
    }

    /** "the heat of the bank rises by gain" */
    private static void heatWithoutUpperEnd() {
        RefreshTrader x = Memory.of("memory 1 1 999 99; gain 20;");
        for (int i = 0; i < 40; i++) {
            x.ask(0, 0);
        }
        x.pass(40);
        Check.same("heat", x.bank(0, HEAT), 800);
        x.pass(1);
        Check.same("heat then", x.bank(0, HEAT), 799);
    }

    /** "The heat of each bank that did not serve falls by 1, if it is greater than 0." */
    private static void heatNotBelowZero() {
        RefreshTrader x = Memory.of("memory 3 1 99 99; ask 0 0 0; ask 1 1 0;");
        x.pass(1);
        banks("heat", x, HEAT, 1, 0, 0);
        x.pass(1);
        banks("heat then", x, HEAT, 0, 1, 0);
        x.pass(1);
        banks("no heat", x, HEAT, 0, 0, 0);
        x.pass(1);
        banks("no heat still", x, HEAT, 0, 0, 0);
    }

    /** "The time becomes t + 1." */
    private static void timeRises() {
        RefreshTrader x = new RefreshTrader();
        for (int time = 0; time < 5; time++) {
            Check.same("the time", x.size(4), time);
            x.pass(1);
        }
        x.pass(200);
        Check.same("the time then", x.size(4), 205);
    }
}
