import java.util.ArrayList;
import java.util.List;

/** Promises 27 to 29: undo and snapshots. */
public final class UndoTest {
    private static final String TEXT = "memory 3 3 7 2; trading; hot 3; gain 2; ahead 1; slots 2; weak 1 1 4 9;"
            + "ask 2 0 0; ask 2 0 1; ask 6 1 1; ask 11 2 2;";

    public static void main(String[] args) {
        promise27();
        promise27EachKind();
        promise27Latest();
        promise27AndOn();
        promise28();
        promise29();
        promise29Slots();
        promise29Requests();
        promises28And29Wrong();
        Check.end();
    }

    private static void change(RefreshTrader x, int i) {
        switch (i % 5) {
            case 0: x.pass(3); break;
            case 1: x.ask(i % 3, i % 2); break;
            case 2: x.set(i % 7, 2); break;
            case 3: x.setTrading(i % 2 == 0); break;
            default: x.set(2, 8); x.set(3, 99); x.set(1, 8); x.trade(0, 1);
        }
    }

    private static String state(RefreshTrader x) {
        return Picture.of(x).replaceAll("undo \\d+", "");
    }

    private static void promise27() {
        RefreshTrader x = Memory.of(TEXT);
        Check.same("nothing to undo", x.undo(), -1);
        List<String> states = new ArrayList<>();
        for (int i = 0; i < 10; i++) {
            states.add(state(x));
            x.pass(2);
            Check.same("changes that can be undone", x.size(10), i + 1);
        }
        for (int i = 9; i >= 0; i--) {
            Check.same("undo", x.undo(), i);
            Check.same("the state behind undo", state(x), states.get(i));
        }
        Check.same("nothing more to undo", x.undo(), -1);
        Check.same("the state behind it", state(x), states.get(0));
    }

    private static void promise27EachKind() {
        RefreshTrader x = Memory.of(TEXT);
        x.set(2, 8);
        String first = state(x);
        x.pass(40);
        x.undo();
        Check.same("pass undone", state(x), first);
        x.ask(1, 2);
        x.undo();
        Check.same("ask undone", state(x), first);
        x.trade(1, 2);
        x.undo();
        Check.same("trade undone", state(x), first);
        x.set(6, 20);
        x.undo();
        Check.same("set undone", state(x), first);
        x.setTrading(false);
        x.undo();
        Check.same("setTrading undone", state(x), first);
        Check.same("one is left", x.size(10), 1);
        x.set(6, x.setting(6));
        x.setTrading(true);
        Check.same("changes that alter nothing count", x.size(10), 3);
        Check.same("undo of nothing altered", x.undo(), 2);
    }

    private static void promise27Latest() {
        RefreshTrader x = Memory.of(TEXT);
        List<String> states = new ArrayList<>();
        for (int i = 0; i < 27; i++) {
            states.add(state(x));
            x.pass(1);
            Check.same("at most ten", x.size(10), Math.min(10, i + 1));
        }
        for (int i = 26; i >= 17; i--) {
            Check.same("undo", x.undo(), i - 17);
            Check.same("the state behind undo", state(x), states.get(i));
        }
        Check.same("the 11th cannot be undone", x.undo(), -1);
        Check.same("the state stays", state(x), states.get(17));
    }

    private static void promise27AndOn() {
        RefreshTrader x = Memory.of(TEXT);
        RefreshTrader straight = Memory.of(TEXT);
        for (int i = 0; i < 25; i++) {
            change(x, i);
            x.undo();
            if (i % 5 == 4) {
                x.undo();
                x.undo();
                x.undo();
            }
            change(x, i);
            change(straight, i);
            Check.same("as without undo", state(x), state(straight));
        }
        RefreshTrader asks = Memory.of("memory 2 2 50 99;");
        asks.ask(0, 0);
        asks.undo();
        Check.same("the number again", asks.ask(1, 1), 0);
        Check.same("another request", asks.request(0, 0), 1);
    }

    private static void promise28() {
        RefreshTrader x = Memory.of(TEXT);
        Check.same("the slot was empty", x.saveSnapshot(0), false);
        Check.same("the slot was full", x.saveSnapshot(0), true);
        Check.same("the other was empty", x.saveSnapshot(1), false);
        Check.same("no change", x.size(10), 0);
        x.pass(4);
        String before = Picture.of(x);
        x.saveSnapshot(0);
        Check.same("nothing changes", Picture.of(x), before);
        x.undo();
        Check.same("in place of the earlier one", x.restoreSnapshot(0), 4);
        Check.same("the other stays", x.restoreSnapshot(1), 0);
    }

    private static void promise29() {
        RefreshTrader x = Memory.of(TEXT);
        for (int i = 0; i < 5; i++) {
            change(x, i);
        }
        String saved = state(x);
        x.saveSnapshot(1);
        for (int i = 0; i < 5; i++) {
            change(x, i);
        }
        Check.same("the time then", x.restoreSnapshot(1), 3);
        Check.same("all that changes change", state(x), saved);
        Check.same("the undo history is cleared", x.size(10), 0);
        Check.same("nothing to undo", x.undo(), -1);
        x.pass(9);
        Check.same("the snapshot stays stored", x.restoreSnapshot(1), 3);
        Check.same("as it was", state(x), saved);
        x.pass(9);
        Check.same("undo behind restore", x.undo(), 0);
        Check.same("it leads to the snapshot", state(x), saved);
    }

    private static void promise29Slots() {
        RefreshTrader x = Memory.of(TEXT);
        x.pass(1);
        x.saveSnapshot(0);
        x.pass(1);
        Check.noState("slot 1 is empty", () -> x.restoreSnapshot(1));
        Check.same("undo behind the exception", x.size(10), 2);
        x.saveSnapshot(1);
        x.pass(1);
        Check.same("slot 0", x.restoreSnapshot(0), 1);
        Check.same("slot 1", x.restoreSnapshot(1), 2);
        Check.same("slot 0 again", x.restoreSnapshot(0), 1);
    }

    private static void promise29Requests() {
        RefreshTrader x = Memory.of("memory 2 2 50 99;");
        x.ask(0, 1);
        x.saveSnapshot(0);
        x.undo();
        x.ask(1, 0);
        x.pass(1);
        x.restoreSnapshot(0);
        Check.same("the bank of the request", x.request(0, 0), 0);
        Check.same("the row of the request", x.request(0, 1), 1);
        Check.same("it waits", x.waiting(0, 0), 0);
        Check.same("none waits there", x.waiting(1, 0), -1);
        Check.same("the sums", x.account(5), 0);
        Check.same("no tick yet", x.bank(1, 7), -1);
    }

    private static void promises28And29Wrong() {
        RefreshTrader x = Memory.of(TEXT);
        Check.noIndex("save -1", () -> x.saveSnapshot(-1));
        Check.noIndex("save 2", () -> x.saveSnapshot(2));
        Check.noIndex("restore -1", () -> x.restoreSnapshot(-1));
        Check.noIndex("restore 2", () -> x.restoreSnapshot(2));
        Check.noIndex("restore the greatest", () -> x.restoreSnapshot(Integer.MAX_VALUE));
        Check.noState("restore of an empty slot", () -> x.restoreSnapshot(0));
        Check.noState("restore of the other", () -> x.restoreSnapshot(1));
    }
}
