import java.util.ArrayDeque;
import java.util.Deque;

/**
 * The boundary cases of what the document says under CHANGES, and of promises 27 to 29, one test
 * for each sentence that names one.
 */
public final class UndoEdgesTest {
    private static final String TEXT = "memory 3 4 7 2; trading; hot 3; gain 2; ahead 1; slots 2; weak 1 1 4 9;"
            + "ask 2 0 0; ask 2 0 1; ask 6 1 1; ask 11 2 2;";

    public static void main(String[] args) {
        undoOfNothing();
        undoOfTenAndEleven();
        undoAroundTheRing();
        undoOfChangesThatAlterNothing();
        undoOfEachChangeFromPassToSetTrading();
        undoOfNothingElse();
        undoBehindRefusedChanges();
        undoOfTheFirstTick();
        undoAtTheLimits();
        undoLeavesSnapshotsAndBuffer();
        parseClearsUndo();
        parseEmptiesSlots();
        parseErrorClearsNothing();
        saveInEmptyAndFullSlots();
        slotsThatDoNotExist();
        restoreOfEmptySlots();
        restoreClearsUndo();
        restoreAgainAndAgain();
        restoreHoldsAllThatChangesChange();
        restoreHoldsTheLine();
        restoreIsNoChange();
        wouldBeIsOnACopy();
        run512Calls();
        Check.end();
    }

    private static String state(RefreshTrader x) {
        return Picture.of(x).replaceAll("undo \\d+", "");
    }

    /** One of the five changes, and one that alters something wherever it can. */
    private static void change(RefreshTrader x, int i) {
        switch (i % 5) {
            case 0: x.pass(1 + i % 3); break;
            case 1: x.set(5, 1 + i % 99); break;
            case 2: x.setTrading(x.size(9) == 0); break;
            case 3: x.set(4, 1 + i % 20); break;
            default: x.pass(2);
        }
    }

    // ---- undo

    /** "NONE if there was none to undo." */
    private static void undoOfNothing() {
        RefreshTrader x = Memory.of(TEXT);
        String before = Picture.of(x);
        Check.same("nothing to undo", x.undo(), -1);
        Check.same("nothing to undo again", x.undo(), -1);
        Check.same("it alters nothing", Picture.of(x), before);
        x.pass(1);
        Check.same("the last one", x.undo(), 0);
        Check.same("and none", x.undo(), -1);
        Check.same("as it was", Picture.of(x), before);
    }

    /** "The latest 10 changes can be undone, the latest first." */
    private static void undoOfTenAndEleven() {
        for (int changes = 9; changes <= 12; changes++) {
            RefreshTrader x = Memory.of(TEXT);
            for (int i = 0; i < changes; i++) {
                x.pass(1);
            }
            int can = Math.min(10, changes);
            Check.same("can be undone", x.size(10), can);
            for (int left = can - 1; left >= 0; left--) {
                Check.same("undo", x.undo(), left);
                Check.same("the time", x.size(4), changes - can + left);
            }
            Check.same("no more", x.undo(), -1);
            Check.same("the time stays", x.size(4), changes - can);
        }
    }

    /** Changes and undos in turn, so that the places of the latest ten go round and round. */
    private static void undoAroundTheRing() {
        for (int back = 1; back <= 11; back++) {
            RefreshTrader x = Memory.of(TEXT);
            Deque<String> states = new ArrayDeque<>();
            for (int i = 0; i < 90; i++) {
                states.addLast(state(x));
                if (states.size() > 10) {
                    states.removeFirst();
                }
                change(x, i);
                Check.same("can be undone", x.size(10), states.size());
                for (int k = 0; k < back && i % 13 == 12; k++) {
                    int due = states.size() - 1;
                    Check.same("undo", x.undo(), due);
                    if (due >= 0) {
                        Check.same("the state", state(x), states.removeLast());
                    }
                }
            }
        }
    }

    /** "are changes if they throw no exception, also if they alter nothing" */
    private static void undoOfChangesThatAlterNothing() {
        RefreshTrader x = Memory.of(TEXT);
        String first = state(x);
        for (int what = 0; what < 7; what++) {
            x.set(what, x.setting(what));
            Check.same("set alters nothing", x.size(10), what + 1);
        }
        x.setTrading(true);
        Check.same("setTrading alters nothing", x.size(10), 8);
        Check.same("the state", state(x), first);
        for (int left = 7; left >= 0; left--) {
            Check.same("undo", x.undo(), left);
        }
        Check.same("nothing is left", x.undo(), -1);
    }

    /** "The methods from pass to setTrading are changes" */
    private static void undoOfEachChangeFromPassToSetTrading() {
        for (int kind = 0; kind < 5; kind++) {
            RefreshTrader x = Memory.of(TEXT);
            String before = state(x);
            switch (kind) {
                case 0: x.pass(200); break;
                case 1: x.ask(2, 3); break;
                case 2: x.trade(0, 1); break;
                case 3: x.set(6, 20); break;
                default: x.setTrading(false);
            }
            Check.holds("change " + kind + " alters something", !state(x).equals(before));
            Check.same("change " + kind + " can be undone", x.size(10), 1);
            Check.same("undo of change " + kind, x.undo(), 0);
            Check.same("the state of before change " + kind, state(x), before);
        }
    }

    private static void undoOfNothingElse() {
        RefreshTrader x = Memory.of(TEXT);
        x.pass(3);
        x.append(0, 0, 0, 0, 0);
        x.errorPosition();
        x.waiting(0, 0);
        x.next(0, 0);
        x.nextLoss();
        x.lossesAhead(300);
        x.leastSetting(3, 300);
        x.waitOf(0);
        x.gainOfTrading(300);
        x.saveSnapshot(0);
        Check.same("one change alone", x.size(10), 1);
        Check.same("undo of it", x.undo(), 0);
        Check.same("the time", x.size(4), 0);
        Check.same("undo is none", x.undo(), -1);
    }

    /** "A method that throws an exception changes nothing." */
    private static void undoBehindRefusedChanges() {
        RefreshTrader x = Memory.of(TEXT);
        x.pass(5);
        String before = Picture.of(x);
        Check.noArgument("pass", () -> x.pass(201));
        Check.noIndex("ask", () -> x.ask(3, 0));
        Check.noArgument("trade", () -> x.trade(0, 0));
        Check.noIndex("trade with none", () -> x.trade(0, 3));
        Check.noArgument("set", () -> x.set(0, 5));
        Check.noArgument("set of none", () -> x.set(7, 1));
        Check.same("the state", Picture.of(x), before);
        Check.same("the one change", x.undo(), 0);
        Check.same("the time", x.size(4), 0);
    }

    private static void undoOfTheFirstTick() {
        RefreshTrader x = Memory.of("memory 2 2 9 1; ask 0 0 0; ask 0 1 1;");
        String before = Picture.of(x);
        x.pass(1);
        Check.same("undo", x.undo(), 0);
        Check.same("as at first", Picture.of(x), before);
        x.pass(1);
        Check.same("requests come again", x.account(5), 2);
    }

    private static void undoAtTheLimits() {
        RefreshTrader x = Memory.of("memory 1 1 99 99;");
        for (int i = 0; i < 10; i++) {
            x.pass(200);
        }
        Check.noState("no time is left", () -> x.pass(1));
        Check.same("undo", x.undo(), 9);
        Check.same("time is left again", x.pass(200), 0);
        for (int left = 9; left >= 0; left--) {
            Check.same("undo", x.undo(), left);
        }
        Check.same("back at 0", x.size(4), 0);
        for (int i = 0; i < 40; i++) {
            x.ask(0, 0);
        }
        Check.noState("no request is left", () -> x.ask(0, 0));
        Check.same("undo of an ask", x.undo(), 9);
        Check.same("its number again", x.ask(0, 0), 39);
        for (int left = 9; left >= 0; left--) {
            Check.same("undo of asks", x.undo(), left);
        }
        Check.same("requests", x.size(5), 30);
        Check.same("the last that waits", x.waiting(0, 29), 29);
        Check.same("none behind it", x.waiting(0, 30), -1);
    }

    private static void undoLeavesSnapshotsAndBuffer() {
        RefreshTrader x = Memory.of(TEXT);
        Memory.parse(x, "!");
        x.pass(2);
        x.saveSnapshot(0);
        x.append(0, 0, 0, 0, 0);
        x.pass(2);
        x.undo();
        x.undo();
        Check.same("the buffer", x.append(0, 0, 0, 0, 0), 40);
        Check.same("the error position", x.errorPosition(), 0);
        Check.same("the snapshot", x.restoreSnapshot(0), 2);
    }

    // ---- what parse does to them

    /** "A successful parse clears the undo history and empties both slots." */
    private static void parseClearsUndo() {
        for (int changes = 1; changes <= 11; changes++) {
            RefreshTrader x = Memory.of(TEXT);
            for (int i = 0; i < changes; i++) {
                x.pass(1);
            }
            Memory.parse(x, TEXT);
            Check.same("no change can be undone", x.size(10), 0);
            Check.same("none is undone", x.undo(), -1);
            for (int i = 0; i < 11; i++) {
                x.pass(2);
            }
            Check.same("ten can be undone", x.undo(), 9);
            for (int i = 0; i < 9; i++) {
                x.undo();
            }
            Check.same("back to the second of them", x.size(4), 2);
        }
    }

    private static void parseEmptiesSlots() {
        RefreshTrader x = Memory.of(TEXT);
        x.saveSnapshot(0);
        x.saveSnapshot(1);
        Memory.parse(x, TEXT);
        Check.noState("slot 0 is empty", () -> x.restoreSnapshot(0));
        Check.noState("slot 1 is empty", () -> x.restoreSnapshot(1));
        Check.same("slot 0 was empty", x.saveSnapshot(0), false);
        Check.same("slot 1 was empty", x.saveSnapshot(1), false);
        Check.same("slot 1 is full", x.saveSnapshot(1), true);
    }

    private static void parseErrorClearsNothing() {
        RefreshTrader x = Memory.of(TEXT);
        x.pass(3);
        x.saveSnapshot(0);
        x.pass(3);
        String before = Picture.of(x);
        for (String wrong : new String[] {"", "memory", TEXT + ";", "memory 1 1 1 1;", TEXT + "trading;"}) {
            Check.holds("an error", Memory.parse(x, wrong) > 0);
            Check.same("the memory", Picture.of(x), before);
        }
        Check.same("slot 0 is full", x.saveSnapshot(0), true);
        Check.same("slot 1 is empty", x.saveSnapshot(1), false);
        Check.same("undo", x.undo(), 1);
        Check.same("undo again", x.undo(), 0);
    }

    // ---- snapshots

    /** "Returns whether there was an earlier one." */
    private static void saveInEmptyAndFullSlots() {
        for (int slot = 0; slot < 2; slot++) {
            RefreshTrader x = Memory.of(TEXT);
            Check.same("the slot is empty", x.saveSnapshot(slot), false);
            x.pass(1);
            Check.same("the slot is full", x.saveSnapshot(slot), true);
            Check.same("the other is empty", x.saveSnapshot(1 - slot), false);
            x.pass(1);
            Check.same("the latest is stored", x.restoreSnapshot(slot), 1);
            Check.same("it is full behind a restore", x.saveSnapshot(slot), true);
        }
    }

    /** "There are two snapshot slots, 0 and 1" */
    private static void slotsThatDoNotExist() {
        RefreshTrader x = Memory.of(TEXT);
        for (int s : new int[] {Integer.MIN_VALUE, -1, 2, 3, Integer.MAX_VALUE}) {
            Check.noIndex("save in " + s, () -> x.saveSnapshot(s));
            Check.noIndex("restore of " + s, () -> x.restoreSnapshot(s));
        }
        Check.same("slot 0 is empty still", x.saveSnapshot(0), false);
        Check.same("slot 1 is empty still", x.saveSnapshot(1), false);
    }

    /** "Throws IllegalStateException if the slot is empty" */
    private static void restoreOfEmptySlots() {
        for (int s = 0; s < 2; s++) {
            int slot = s;
            RefreshTrader x = Memory.of(TEXT);
            x.pass(4);
            x.saveSnapshot(1 - slot);
            x.pass(4);
            String before = Picture.of(x);
            Check.noState("the slot is empty", () -> x.restoreSnapshot(slot));
            Check.same("nothing changes", Picture.of(x), before);
            Check.same("undo", x.undo(), 1);
        }
    }

    /** "The undo history is cleared." */
    private static void restoreClearsUndo() {
        for (int changes = 0; changes <= 11; changes++) {
            RefreshTrader x = Memory.of(TEXT);
            x.saveSnapshot(0);
            for (int i = 0; i < changes; i++) {
                x.pass(1);
            }
            Check.same("the time then", x.restoreSnapshot(0), 0);
            Check.same("no change can be undone", x.size(10), 0);
            Check.same("none is undone", x.undo(), -1);
            Check.same("the time stays", x.size(4), 0);
            for (int i = 0; i < 11; i++) {
                x.pass(1);
            }
            for (int left = 9; left >= 0; left--) {
                Check.same("undo", x.undo(), left);
                Check.same("the time behind undo", x.size(4), left + 1);
            }
        }
    }

    /** "Restores the snapshot of a slot, which stays stored." */
    private static void restoreAgainAndAgain() {
        RefreshTrader x = Memory.of(TEXT);
        x.pass(7);
        String saved = state(x);
        x.saveSnapshot(1);
        for (int i = 0; i < 5; i++) {
            x.pass(1 + i);
            x.ask(i % 3, i % 4);
            Check.same("the time then", x.restoreSnapshot(1), 7);
            Check.same("the state then", state(x), saved);
        }
    }

    /** "a snapshot holds everything that changes can change, the sums of account(), too" */
    private static void restoreHoldsAllThatChangesChange() {
        RefreshTrader x = Memory.of(TEXT);
        x.pass(9);
        x.ask(0, 3);
        String saved = state(x);
        x.saveSnapshot(0);
        for (int what = 0; what < 7; what++) {
            x.set(what, x.setting(what) == 1 ? 2 : 1);
        }
        x.set(2, 8);
        x.set(3, 99);
        x.set(1, 8);
        x.trade(2, 1);
        x.setTrading(false);
        x.ask(1, 1);
        x.pass(50);
        String other = state(x);
        x.saveSnapshot(1);
        Check.same("the time", x.restoreSnapshot(0), 9);
        Check.same("all is as it was", state(x), saved);
        Check.same("the time of the other", x.restoreSnapshot(1), 59);
        Check.same("all is as it was there", state(x), other);
    }

    /** The line of those that wait is as it was, also where the same numbers stood in another order. */
    private static void restoreHoldsTheLine() {
        RefreshTrader x = Memory.of("memory 1 1 99 99; ask 0 0 0;");
        x.ask(0, 0);
        x.ask(0, 0);
        x.saveSnapshot(0);
        x.undo();
        x.undo();
        x.pass(1);
        x.ask(0, 0);
        x.ask(0, 0);
        Check.same("served first", x.request(0, 3), 2);
        x.saveSnapshot(1);
        Check.same("the time then", x.restoreSnapshot(0), 0);
        x.pass(3);
        int[] servedAt = {2, 0, 1};
        for (int request = 0; request < 3; request++) {
            Check.same("served at", x.request(request, 4), servedAt[request]);
        }
        Check.same("the time of the other", x.restoreSnapshot(1), 1);
        Check.same("first in line", x.waiting(0, 0), 1);
        Check.same("second in line", x.waiting(0, 1), 2);
        Check.same("none behind them", x.waiting(0, 2), -1);
        x.pass(2);
        x.undo();
        Check.same("first in line behind undo", x.waiting(0, 0), 1);
        Check.same("second in line behind undo", x.waiting(0, 1), 2);
    }

    private static void restoreIsNoChange() {
        RefreshTrader x = Memory.of(TEXT);
        x.pass(2);
        x.saveSnapshot(0);
        Check.same("saving is no change", x.size(10), 1);
        x.restoreSnapshot(0);
        Check.same("nor is restoring", x.size(10), 0);
        x.pass(1);
        Check.same("a change behind it", x.undo(), 0);
        Check.same("the time of the snapshot", x.size(4), 2);
    }

    /** "What would be is found on a copy." */
    private static void wouldBeIsOnACopy() {
        RefreshTrader x = Memory.of(TEXT);
        for (int time = 0; time < 30; time++) {
            String before = Picture.of(x);
            x.next(time % 3, time % 4);
            x.nextLoss();
            x.lossesAhead(1 + time);
            x.leastSetting(time % 7, 1 + time);
            x.waitOf(time % 4);
            x.gainOfTrading(1 + time);
            Check.same("nothing changes", Picture.of(x), before);
            x.pass(1);
        }
    }

    /** "An object is used for at most 512 calls after it has been made" */
    private static void run512Calls() {
        // The rows pass the bound in the last of the 300 ticks, whatever value is tried.
        RefreshTrader x = Memory.of("memory 4 16 299 99; trading; margin 0;" + "ask 999 3 15;".repeat(20));
        Check.same("no loss ahead of it", x.leastSetting(3, 299), 1);
        for (int call = 1; call < 512; call++) {
            Check.same("the dearest call", x.leastSetting(3, 300), -1);
        }
        Check.same("nothing changes", x.size(4), 0);
    }
}
