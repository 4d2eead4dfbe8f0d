import java.util.ArrayDeque;
import java.util.ArrayList;
import java.util.Comparator;
import java.util.Deque;
import java.util.HashSet;
import java.util.List;
import java.util.Set;
import java.util.regex.Matcher;
import java.util.regex.Pattern;

/**
 * The document once more, in the plainest words that the Java library has for it, for RandomTest to
 * compare with. It shares no line with the class, and takes no care of speed.
 */
final class PlainMemory {
    private static final String[] WORDS = {"slots", "most", "ahead", "hot", "gain", "patience", "margin"};
    private static final int[] LOW = {1, 1, 0, 1, 1, 1, 0};
    private static final int[] HIGH = {4, 8, 8, 99, 20, 99, 20};

    private static final class Row {
        int age;
        boolean lost;
        int refreshes;
        int accesses;
        int losses;
        int own = -1;
        int from = -1;

        Row copy() {
            Row r = new Row();
            r.age = age;
            r.lost = lost;
            r.refreshes = refreshes;
            r.accesses = accesses;
            r.losses = losses;
            r.own = own;
            r.from = from;
            return r;
        }
    }

    private static final class Bank {
        int number;
        int debt;
        int heat;
        int refreshes;
        int gave;
        int took;
        int wish = -1;
        int granted = -1;
        List<Row> rows = new ArrayList<>();
        List<Request> queue = new ArrayList<>();
        int touched = -1;
        Request serves;
    }

    private static final class Request {
        int number;
        int bank;
        int row;
        int tick;
        int state;
        int servedAt = -1;
        boolean ofText;
    }

    /** Everything, also what the text alone says. */
    private static final class World {
        int bound = 4;
        int interval = 1;
        int time;
        boolean trading;
        int[] settings = {1, 4, 0, 99, 1, 20, 2};
        int[] sums = new int[6];
        List<Bank> banks = new ArrayList<>();
        List<Request> requests = new ArrayList<>();
        int lossesOfTick;

        static World make(int banks, int rows, int bound, int interval) {
            World w = new World();
            w.bound = bound;
            w.interval = interval;
            for (int b = 0; b < banks; b++) {
                Bank bank = new Bank();
                bank.number = b;
                for (int r = 0; r < rows; r++) {
                    bank.rows.add(new Row());
                }
                w.banks.add(bank);
            }
            return w;
        }

        World copy() {
            World w = new World();
            w.bound = bound;
            w.interval = interval;
            w.time = time;
            w.trading = trading;
            w.settings = settings.clone();
            w.sums = sums.clone();
            for (Request q : requests) {
                Request c = new Request();
                c.number = q.number;
                c.bank = q.bank;
                c.row = q.row;
                c.tick = q.tick;
                c.state = q.state;
                c.servedAt = q.servedAt;
                c.ofText = q.ofText;
                w.requests.add(c);
            }
            for (Bank b : banks) {
                Bank c = new Bank();
                c.number = b.number;
                c.debt = b.debt;
                c.heat = b.heat;
                c.refreshes = b.refreshes;
                c.gave = b.gave;
                c.took = b.took;
                c.wish = b.wish;
                c.granted = b.granted;
                for (Row r : b.rows) {
                    c.rows.add(r.copy());
                }
                for (Request q : b.queue) {
                    c.queue.add(w.requests.get(q.number));
                }
                w.banks.add(c);
            }
            return w;
        }

        boolean hot(Bank b) {
            return b.heat >= settings[3];
        }

        int boundOf(Bank b, Row r) {
            int bound = this.bound;
            if (r.own >= 0 && time >= r.from && r.own < bound) {
                bound = r.own;
            }
            if (hot(b)) {
                bound /= 2;
                if (bound < 1) {
                    bound = 1;
                }
            }
            return bound;
        }

        int remains(Bank b, Row r) {
            return boundOf(b, r) - r.age;
        }

        Row least(Bank b) {
            return b.rows.stream().min(Comparator.comparingInt(r -> remains(b, r))).get();
        }

        int tick() {
            for (Request q : requests) {
                if (q.ofText && q.tick == time) {
                    q.state = 1;
                    banks.get(q.bank).queue.add(q);
                }
            }
            if (time > 0 && time % interval == 0) {
                for (Bank b : banks) {
                    b.debt++;
                    sums[0]++;
                }
            }
            if (trading) {
                for (Bank b : banks) {
                    if (hot(b) && b.debt > 0) {
                        banks.stream().filter(o -> o != b && !hot(o) && o.debt < settings[1])
                                .min(Comparator.comparingInt(o -> o.heat)).ifPresent(o -> move(b, o));
                    }
                }
            }
            for (Bank b : banks) {
                b.wish = wish(b);
                b.granted = b.wish == 2 || b.wish == 4 ? 1 : 0;
            }
            banks.stream().filter(b -> Set.of(1, 3, 5, 6).contains(b.wish))
                    .sorted(Comparator.<Bank>comparingInt(b -> b.wish)
                            .thenComparingInt(b -> b.wish == 1 ? remains(b, least(b)) : -b.debt)
                            .thenComparingInt(b -> b.number))
                    .limit(settings[0]).forEach(b -> b.granted = 1);
            int[][] bounds = new int[banks.size()][banks.get(0).rows.size()];
            for (Bank b : banks) {
                for (int r = 0; r < b.rows.size(); r++) {
                    bounds[b.number][r] = boundOf(b, b.rows.get(r));
                }
            }
            for (Bank b : banks) {
                act(b);
            }
            lossesOfTick = 0;
            for (Bank b : banks) {
                for (int r = 0; r < b.rows.size(); r++) {
                    Row row = b.rows.get(r);
                    row.age = b.touched == r ? 0 : row.age + 1;
                    if (row.age > bounds[b.number][r] && !row.lost) {
                        row.lost = true;
                        row.losses++;
                        lossesOfTick++;
                    }
                }
            }
            sums[3] += lossesOfTick;
            for (Bank b : banks) {
                if (b.serves == null && b.heat > 0) {
                    b.heat--;
                }
            }
            time++;
            return lossesOfTick;
        }

        void move(Bank from, Bank to) {
            from.debt--;
            to.debt++;
            from.gave++;
            to.took++;
            sums[4]++;
        }

        int wish(Bank b) {
            if (remains(b, least(b)) <= settings[6]) {
                return 1;
            }
            if (!b.queue.isEmpty() && time - b.queue.get(0).tick >= settings[5]) {
                return 2;
            }
            if (b.debt >= settings[1]) {
                return 3;
            }
            if (!b.queue.isEmpty()) {
                return 4;
            }
            if (b.debt > 0) {
                return 5;
            }
            return b.debt > -settings[2] ? 6 : 0;
        }

        void act(Bank b) {
            b.touched = -1;
            b.serves = null;
            boolean refresh = b.wish == 1 || b.wish == 3 || b.wish == 5 || b.wish == 6;
            if (refresh && b.granted == 1) {
                Row row = least(b);
                b.touched = b.rows.indexOf(row);
                row.refreshes++;
                row.lost = false;
                b.refreshes++;
                b.debt--;
                sums[1]++;
                if (b.wish == 1) {
                    sums[2]++;
                }
            } else if (!b.queue.isEmpty()) {
                b.serves = b.queue.remove(0);
                b.serves.state = 2;
                b.serves.servedAt = time;
                b.touched = b.serves.row;
                Row row = b.rows.get(b.touched);
                row.accesses++;
                row.lost = false;
                b.heat += settings[4];
                sums[5]++;
            }
        }

        int losses(int ticks) {
            int sum = 0;
            for (int i = 0; i < ticks; i++) {
                sum += tick();
            }
            return sum;
        }
    }

    private World now = World.make(1, 1, 4, 1);
    private StringBuilder buffer = new StringBuilder();
    private int errorPosition = -1;
    private final Deque<World> history = new ArrayDeque<>();
    private World[] snapshots = new World[2];

    // ---- the text

    private static final class Error extends RuntimeException {
        private static final long serialVersionUID = 1L;
        final int code;
        final int position;

        Error(int code, int position) {
            this.code = code;
            this.position = position;
        }
    }

    private static final Pattern TOKEN = Pattern.compile("[ \\n]*([a-z]+|[0-9]+|[^ \\n])", Pattern.DOTALL);
    private String text;
    private int at;
    private String token;
    private int tokenAt;

    private void read() {
        Matcher m = TOKEN.matcher(text);
        if (!m.find(at)) {
            token = "";
            tokenAt = text.length();
            return;
        }
        token = m.group(1);
        tokenAt = m.start(1);
        at = m.end();
        if (!token.matches("[a-z]{1,8}|[0-9]{1,3}|;")) {
            throw new Error(1, tokenAt);
        }
    }

    private void must(boolean right, int code) {
        if (!right) {
            throw new Error(code, tokenAt);
        }
    }

    private int number(int low, int high) {
        read();
        must(token.matches("[0-9]+"), 1);
        int value = Integer.parseInt(token);
        must(value >= low && value <= high, 3);
        return value;
    }

    private void semicolon() {
        read();
        must(token.equals(";"), 1);
    }

    private World readMemory() {
        read();
        must(token.equals("memory"), 1);
        int banks = number(1, 4);
        int rows = number(1, 16);
        int bound = number(4, 999);
        World w = World.make(banks, rows, bound, number(1, 99));
        semicolon();
        Set<String> told = new HashSet<>();
        for (read(); !token.isEmpty(); read()) {
            readStatement(w, banks, rows, told);
            semicolon();
        }
        return w;
    }

    private void readStatement(World w, int banks, int rows, Set<String> told) {
        List<String> words = List.of(WORDS);
        if (token.equals("weak")) {
            int bank = number(0, banks - 1);
            Row row = w.banks.get(bank).rows.get(number(0, rows - 1));
            must(row.own < 0, 2);
            row.own = number(1, 999);
            row.from = number(0, 999);
        } else if (token.equals("ask")) {
            must(w.requests.size() < 20, 4);
            int tick = number(0, 999);
            int bank = number(0, banks - 1);
            addRequest(w, bank, number(0, rows - 1), tick, true);
        } else if (token.equals("trading")) {
            must(told.add(token), 2);
            w.trading = true;
        } else {
            int what = words.indexOf(token);
            must(what >= 0, 1);
            must(told.add(token), 2);
            w.settings[what] = number(LOW[what], HIGH[what]);
        }
    }

    private static Request addRequest(World w, int bank, int row, int tick, boolean ofText) {
        Request q = new Request();
        q.number = w.requests.size();
        q.bank = bank;
        q.row = row;
        q.tick = tick;
        q.ofText = ofText;
        w.requests.add(q);
        return q;
    }

    private int parse(int length) {
        argument(length >= 0 && length <= buffer.length());
        text = buffer.substring(0, length);
        at = 0;
        buffer.setLength(0);
        try {
            now = readMemory();
            errorPosition = -1;
            history.clear();
            snapshots = new World[2];
            return 0;
        } catch (Error e) {
            errorPosition = e.position;
            return e.code;
        }
    }

    private int append(int[] words) {
        if (buffer.length() + 20 > 600) {
            return -1;
        }
        for (int word : words) {
            for (int shift = 24; shift >= 0; shift -= 8) {
                buffer.append((char) (word >> shift & 255));
            }
        }
        return buffer.length();
    }

    // ---- the calls

    private static void index(boolean right) {
        if (!right) {
            throw new IndexOutOfBoundsException();
        }
    }

    private static void argument(boolean right) {
        if (!right) {
            throw new IllegalArgumentException();
        }
    }

    private static void state(boolean right) {
        if (!right) {
            throw new IllegalStateException();
        }
    }

    private Bank bankOf(int bank) {
        index(bank >= 0 && bank < now.banks.size());
        return now.banks.get(bank);
    }

    private Row rowOf(int bank, int row) {
        Bank b = bankOf(bank);
        index(row >= 0 && row < b.rows.size());
        return b.rows.get(row);
    }

    private Request requestOf(int request) {
        index(request >= 0 && request < now.requests.size());
        return now.requests.get(request);
    }

    private void change() {
        history.addLast(now.copy());
        if (history.size() > 10) {
            history.removeFirst();
        }
    }

    private static int pick(int what, int... values) {
        argument(what >= 0 && what < values.length);
        return values[what];
    }

    private static int bit(boolean b) {
        return b ? 1 : 0;
    }

    /** The answer of a call of the face: a boxed number or truth. */
    Object call(String name, int... a) {
        switch (name) {
            case "append": return append(a);
            case "parse": return parse(a[0]);
            case "errorPosition": return errorPosition;
            case "size": return size(a[0]);
            case "setting": return pick(a[0], now.settings);
            case "bank": return bank(bankOf(a[0]), a[1]);
            case "row": return row(rowOf(a[0], a[1]), now.banks.get(a[0]), a[2]);
            case "request": return request(requestOf(a[0]), a[1]);
            case "waiting": return waiting(bankOf(a[0]), a[1]);
            case "weakest": return weakest();
            case "next": return next(bankOf(a[0]).number, a[1]);
            case "nextLoss": return nextLoss(now.copy(), 300);
            case "lossesAhead": return lossesAhead(a[0]);
            case "leastSetting": return leastSetting(a[0], a[1]);
            case "waitOf": return waitOf(requestOf(a[0]).number);
            case "gainOfTrading": return gainOfTrading(a[0]);
            case "meanWait": return meanWait();
            case "greatestWait": return waits().stream().max(Integer::compare).orElse(-1);
            case "isWhole": return true;
            case "account": return pick(a[0], now.sums);
            default: return changeCall(name, a);
        }
    }

    private Object changeCall(String name, int... a) {
        switch (name) {
            case "pass": return pass(a[0]);
            case "ask": return ask(a[0], a[1]);
            case "trade": return trade(a[0], a[1]);
            case "set": return set(a[0], a[1]);
            case "setTrading": return setTrading(a[0] == 1);
            case "undo": return undo();
            case "saveSnapshot": return saveSnapshot(a[0]);
            case "restoreSnapshot": return restoreSnapshot(a[0]);
            default: throw new AssertionError(name);
        }
    }

    private int size(int what) {
        int waiting = (int) now.requests.stream().filter(q -> q.state == 1).count();
        int lost = (int) now.banks.stream().flatMap(b -> b.rows.stream()).filter(r -> r.lost).count();
        int hot = (int) now.banks.stream().filter(now::hot).count();
        return pick(what, now.banks.size(), now.banks.get(0).rows.size(), now.bound, now.interval, now.time,
                now.requests.size(), waiting, lost, hot, bit(now.trading), history.size());
    }

    private int bank(Bank b, int what) {
        int served = (int) now.requests.stream().filter(q -> q.bank == b.number && q.state == 2).count();
        return pick(what, b.debt, b.heat, b.queue.size(), served, b.refreshes, b.gave, b.took, b.wish, b.granted);
    }

    private int row(Row r, Bank b, int what) {
        return pick(what, r.age, now.boundOf(b, r), now.remains(b, r), bit(r.lost), r.refreshes, r.accesses,
                r.losses, r.own, r.from);
    }

    private static int request(Request q, int what) {
        return pick(what, q.bank, q.row, q.tick, q.state, q.servedAt);
    }

    private static int waiting(Bank b, int k) {
        return k >= 0 && k < b.queue.size() ? b.queue.get(k).number : -1;
    }

    private int weakest() {
        Bank bank = now.banks.stream().min(Comparator.comparingInt(b -> now.remains(b, now.least(b)))).get();
        return 100 * bank.number + bank.rows.indexOf(now.least(bank));
    }

    private int next(int bank, int what) {
        World w = now.copy();
        w.tick();
        Bank b = w.banks.get(bank);
        return pick(what, b.wish, b.granted, b.touched, b.serves == null ? -1 : b.serves.number);
    }

    private static int nextLoss(World w, int ticks) {
        for (int i = 0; i < ticks; i++) {
            if (w.tick() > 0) {
                return w.time - 1;
            }
        }
        return -1;
    }

    private int lossesAhead(int ticks) {
        argument(ticks >= 1 && ticks <= 300);
        return now.copy().losses(ticks);
    }

    private int leastSetting(int what, int ticks) {
        argument(what >= 0 && what < 7);
        argument(ticks >= 1 && ticks <= 300);
        for (int value = LOW[what]; value <= HIGH[what]; value++) {
            World w = now.copy();
            w.settings[what] = value;
            if (nextLoss(w, ticks) < 0) {
                return value;
            }
        }
        return -1;
    }

    private int waitOf(int request) {
        World w = now.copy();
        for (int i = 0; i < 300 && w.requests.get(request).state != 2; i++) {
            w.tick();
        }
        Request q = w.requests.get(request);
        return q.state == 2 ? q.servedAt - q.tick : -1;
    }

    private int gainOfTrading(int ticks) {
        argument(ticks >= 1 && ticks <= 300);
        World without = now.copy();
        without.trading = false;
        World with = now.copy();
        with.trading = true;
        return without.losses(ticks) - with.losses(ticks);
    }

    private List<Integer> waits() {
        return now.requests.stream().filter(q -> q.state == 2).map(q -> q.servedAt - q.tick).toList();
    }

    private double meanWait() {
        int sum = waits().stream().mapToInt(i -> i).sum();
        return waits().isEmpty() ? 0.0 : (double) sum / waits().size();
    }

    private int pass(int ticks) {
        argument(ticks >= 1 && ticks <= 200);
        state(now.time + ticks <= 2000);
        change();
        return now.losses(ticks);
    }

    private int ask(int bank, int row) {
        rowOf(bank, row);
        state(now.requests.size() < 40);
        change();
        Request q = addRequest(now, bank, row, now.time, false);
        q.state = 1;
        now.banks.get(bank).queue.add(q);
        return q.number;
    }

    private int trade(int bank, int other) {
        bankOf(bank);
        bankOf(other);
        argument(bank != other);
        Bank taker = bankOf(other);
        state(!now.hot(taker) && taker.debt < now.settings[1] && bankOf(bank).debt > -now.settings[2]);
        change();
        now.move(bankOf(bank), bankOf(other));
        return bankOf(other).debt;
    }

    private int set(int what, int value) {
        argument(what >= 0 && what < 7 && value >= LOW[what] && value <= HIGH[what]);
        change();
        int previous = now.settings[what];
        now.settings[what] = value;
        return previous;
    }

    private boolean setTrading(boolean trading) {
        change();
        boolean previous = now.trading;
        now.trading = trading;
        return previous;
    }

    private int undo() {
        if (history.isEmpty()) {
            return -1;
        }
        now = history.removeLast();
        return history.size();
    }

    private boolean saveSnapshot(int slot) {
        index(slot >= 0 && slot < 2);
        boolean earlier = snapshots[slot] != null;
        snapshots[slot] = now.copy();
        return earlier;
    }

    private int restoreSnapshot(int slot) {
        index(slot >= 0 && slot < 2);
        state(snapshots[slot] != null);
        now = snapshots[slot].copy();
        history.clear();
        return now.time;
    }
}
