import java.util.Arrays;
import java.util.Random;

/** Long runs of calls, always the same ones, on RefreshTrader and on PlainMemory: all promises together. */
public final class RandomTest {
    private static final int RUNS = 6000;
    private static final int CALLS = 80;
    private static final String[] SETTINGS = {"slots", "most", "ahead", "hot", "gain", "patience", "margin"};
    private static final int[] LOW = {1, 1, 0, 1, 1, 1, 0};
    private static final int[] HIGH = {4, 8, 8, 99, 20, 99, 20};
    private static final String[] ASKERS = {"errorPosition", "size", "setting", "bank", "row", "request", "waiting",
        "weakest", "next", "nextLoss", "lossesAhead", "leastSetting", "waitOf", "gainOfTrading", "meanWait",
        "greatestWait", "isWhole", "account"};
    private static final String[] CHANGES = {"pass", "pass", "pass", "pass", "ask", "ask", "trade", "trade", "trade",
        "set", "set", "setTrading", "undo", "undo", "saveSnapshot", "restoreSnapshot"};

    private final Random random;
    private final RefreshTrader real = new RefreshTrader();
    private final PlainMemory plain = new PlainMemory();
    private final StringBuilder story = new StringBuilder();
    private int banks = 1;
    private int rows = 1;

    private RandomTest(int seed) {
        random = new Random(seed);
    }

    public static void main(String[] args) {
        int from = args.length > 1 ? Integer.parseInt(args[1]) : 0;
        int runs = args.length > 2 ? Integer.parseInt(args[2]) : RUNS;
        for (int seed = from; seed < from + runs; seed++) {
            new RandomTest(seed).run();
        }
        Check.end();
    }

    private void run() {
        for (int i = random.nextInt(3); i >= 0; i--) {
            giveText();
        }
        for (int i = 0; i < CALLS; i++) {
            if (random.nextInt(60) == 0) {
                giveText();
            }
            if (random.nextInt(3) == 0) {
                both(CHANGES[random.nextInt(CHANGES.length)]);
            } else {
                both(ASKERS[random.nextInt(ASKERS.length)]);
            }
        }
        compareAll();
    }

    /** All that can be asked of a bank, a row, a request or a sum. */
    private void compareAll() {
        for (int what = 0; what < 11; what++) {
            compare("size", what);
        }
        for (int bank = 0; bank < banks; bank++) {
            for (int what = 0; what < 9; what++) {
                compare("bank", bank, what);
                for (int row = 0; row < rows; row++) {
                    compare("row", bank, row, what);
                }
            }
        }
        for (int request = 0; request < 40; request++) {
            for (int what = 0; what < 5; what++) {
                compare("request", request, what);
            }
        }
        for (int what = 0; what < 6; what++) {
            compare("account", what);
        }
        compare("meanWait");
        compare("greatestWait");
    }

    // ---- texts

    private int within(int low, int high) {
        return low + random.nextInt(high - low + 1);
    }

    private void giveText() {
        String text = makeText();
        if (random.nextInt(6) == 0) {
            text = spoil(text);
        }
        int length = Math.min(600, text.length());
        StringBuilder padded = new StringBuilder(text.substring(0, length));
        while (padded.length() % 20 != 0) {
            padded.append(' ');
        }
        for (int i = 0; i < padded.length(); i += 20) {
            int[] words = new int[5];
            for (int k = 0; k < 20; k++) {
                words[k / 4] = words[k / 4] << 8 | padded.charAt(i + k) & 255;
            }
            compare("append", words);
        }
        compare("parse", random.nextInt(40) == 0 ? within(-2, 605) : length);
        compare("errorPosition");
        banks = real.size(0);
        rows = real.size(1);
    }

    private String makeText() {
        int manyBanks = within(1, 4);
        int manyRows = random.nextBoolean() ? within(1, 4) : within(1, 16);
        int bound = random.nextInt(4) == 0 ? within(4, 999) : within(4, 30);
        StringBuilder text = new StringBuilder();
        text.append("memory ").append(manyBanks).append(' ').append(manyRows).append(' ').append(bound);
        text.append(' ').append(random.nextInt(3) == 0 ? within(1, 99) : within(1, 6)).append(';');
        boolean[] told = new boolean[8];
        int statements = within(0, 26);
        for (int i = 0; i < statements; i++) {
            int kind = random.nextInt(4);
            if (kind == 0) {
                addSetting(text, told);
            } else if (kind == 1) {
                text.append("weak ").append(random.nextInt(manyBanks)).append(' ').append(random.nextInt(manyRows));
                text.append(' ').append(within(1, bound)).append(' ').append(within(0, 40)).append(";\n");
            } else {
                text.append("ask ").append(random.nextInt(9) == 0 ? within(0, 999) : within(0, 15)).append(' ');
                text.append(random.nextInt(manyBanks)).append(' ').append(random.nextInt(manyRows)).append("; ");
            }
        }
        return text.toString();
    }

    private void addSetting(StringBuilder text, boolean[] told) {
        int what = random.nextInt(8);
        if (told[what] && random.nextInt(20) != 0) {
            return;
        }
        told[what] = true;
        if (what == 7) {
            text.append("trading;");
            return;
        }
        int high = random.nextInt(3) == 0 ? HIGH[what] : Math.min(HIGH[what], LOW[what] + 7);
        text.append(SETTINGS[what]).append(' ').append(within(LOW[what], high)).append(';');
    }

    private String spoil(String text) {
        StringBuilder spoilt = new StringBuilder(text);
        int at = random.nextInt(text.length());
        switch (random.nextInt(4)) {
            case 0: spoilt.setCharAt(at, (char) random.nextInt(256)); break;
            case 1: spoilt.deleteCharAt(at); break;
            case 2: spoilt.insert(at, ";0 9a\n".charAt(random.nextInt(6))); break;
            default: spoilt.setLength(at);
        }
        return spoilt.toString();
    }

    // ---- calls

    private int someBank() {
        return random.nextInt(12) == 0 ? within(-1, 4) : random.nextInt(banks);
    }

    private int someRow() {
        return random.nextInt(12) == 0 ? within(-1, 16) : random.nextInt(rows);
    }

    private int someTicks(int most) {
        return random.nextInt(4) == 0 ? within(-1, most + 1) : within(1, 12);
    }

    private int someSetting(int what) {
        if (what < 0 || what > 6 || random.nextInt(10) == 0) {
            return within(-1, 100);
        }
        return within(LOW[what], random.nextBoolean() ? HIGH[what] : Math.min(HIGH[what], LOW[what] + 5));
    }

    private void both(String name) {
        int what = within(-1, 7);
        switch (name) {
            case "size": compare(name, within(-1, 11)); break;
            case "setting": case "account": compare(name, what); break;
            case "bank": compare(name, someBank(), within(-1, 9)); break;
            case "row": compare(name, someBank(), someRow(), within(-1, 9)); break;
            case "request": compare(name, within(-1, 40), within(-1, 5)); break;
            case "waiting": compare(name, someBank(), within(-1, 6)); break;
            case "next": compare(name, someBank(), within(-1, 4)); break;
            case "lossesAhead": case "gainOfTrading": compare(name, someTicks(300)); break;
            case "leastSetting": compare(name, what, someTicks(random.nextInt(8) == 0 ? 300 : 40)); break;
            case "waitOf": compare(name, within(-1, 25)); break;
            case "pass": compare(name, random.nextInt(3) == 0 ? someTicks(200) : within(1, 5)); break;
            case "ask": compare(name, someBank(), someRow()); break;
            case "trade": compare(name, someBank(), someBank()); break;
            case "set": compare(name, what, someSetting(what)); break;
            case "setTrading": compare(name, random.nextInt(2)); break;
            case "saveSnapshot": case "restoreSnapshot": compare(name, within(-1, 2)); break;
            default: compare(name);
        }
    }

    private void compare(String name, int... a) {
        Object due = answer(() -> plain.call(name, a));
        Object got = answer(() -> onReal(name, a));
        String call = name + Arrays.toString(a);
        story.append(call).append(" = ").append(due).append('\n');
        if (!got.equals(due)) {
            System.out.println(story);
            Check.same(call, got, due);
            Check.end();
        }
        Check.same(call, got, due);
    }

    private static Object answer(Check.Call call) {
        try {
            return call.run();
        } catch (RuntimeException e) {
            return e.getClass();
        }
    }

    private Object onReal(String name, int... a) {
        switch (name) {
            case "append": return real.append(a[0], a[1], a[2], a[3], a[4]);
            case "parse": return real.parse(a[0]);
            case "errorPosition": return real.errorPosition();
            case "size": return real.size(a[0]);
            case "setting": return real.setting(a[0]);
            case "bank": return real.bank(a[0], a[1]);
            case "row": return real.row(a[0], a[1], a[2]);
            case "request": return real.request(a[0], a[1]);
            case "waiting": return real.waiting(a[0], a[1]);
            case "weakest": return real.weakest();
            case "next": return real.next(a[0], a[1]);
            case "nextLoss": return real.nextLoss();
            case "lossesAhead": return real.lossesAhead(a[0]);
            case "leastSetting": return real.leastSetting(a[0], a[1]);
            case "waitOf": return real.waitOf(a[0]);
            case "gainOfTrading": return real.gainOfTrading(a[0]);
            case "meanWait": return real.meanWait();
            case "greatestWait": return real.greatestWait();
            case "isWhole": return real.isWhole();
            case "account": return real.account(a[0]);
            default: return changeReal(name, a);
        }
    }

    private Object changeReal(String name, int... a) {
        switch (name) {
            case "pass": return real.pass(a[0]);
            case "ask": return real.ask(a[0], a[1]);
            case "trade": return real.trade(a[0], a[1]);
            case "set": return real.set(a[0], a[1]);
            case "setTrading": return real.setTrading(a[0] == 1);
            case "undo": return real.undo();
            case "saveSnapshot": return real.saveSnapshot(a[0]);
            case "restoreSnapshot": return real.restoreSnapshot(a[0]);
            default: throw new AssertionError(name);
        }
    }
}
