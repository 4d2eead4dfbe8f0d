import java.util.Arrays;

/**
 * A controller of a memory whose rows lose what they hold unless they are refreshed in time.
 *
 * <p>All states that a run can need (the present one, the copy on which is found what would be,
 * those that can be undone and the snapshots) are made with the object, and no call makes another.
 */
public final class RefreshTrader {
    public static final int NONE = -1;

    private static final int MAX_BANKS = 4;
    private static final int MAX_ROWS = 16;
    private static final int MAX_CELLS = MAX_BANKS * MAX_ROWS;
    private static final int MAX_BOUND = 999;
    private static final int MIN_MEMORY_BOUND = 4;
    private static final int MAX_INTERVAL = 99;
    private static final int MAX_TICK = 999;
    private static final int MAX_TEXT_REQUESTS = 20;
    private static final int MAX_REQUESTS = 40;
    private static final int MAX_BYTES = 600;
    private static final int BYTES_OF_APPEND = 20;
    private static final int MAX_TIME = 2000;
    private static final int MAX_PASS = 200;
    private static final int MAX_AHEAD = 300;
    private static final int MAX_UNDO = 10;
    private static final int MAX_SNAPSHOTS = 2;
    private static final int FAR_ABOVE_ALL = 1000000000;

    private static final int SLOTS = 0;
    private static final int MOST = 1;
    private static final int AHEAD = 2;
    private static final int HOT = 3;
    private static final int GAIN = 4;
    private static final int PATIENCE = 5;
    private static final int MARGIN = 6;
    private static final int SETTINGS = 7;
    private static final int[] LEAST_OF_SETTING = {1, 1, 0, 1, 1, 1, 0};
    private static final int[] MOST_OF_SETTING = {4, 8, 8, 99, 20, 99, 20};
    private static final int[] SETTING_IF_NOT_TOLD = {1, 4, 0, 99, 1, 20, 2};

    private static final int WISH_NONE = 0;
    private static final int WISH_URGENT = 1;
    private static final int WISH_PATIENCE = 2;
    private static final int WISH_FORCED = 3;
    private static final int WISH_SERVE = 4;
    private static final int WISH_DEBT = 5;
    private static final int WISH_AHEAD = 6;

    private static final int TO_COME = 0;
    private static final int WAITING = 1;
    private static final int SERVED = 2;

    private static final int SUM_CAME = 0;
    private static final int SUM_REFRESHES = 1;
    private static final int SUM_URGENT = 2;
    private static final int SUM_LOSSES = 3;
    private static final int SUM_TRADED = 4;
    private static final int SUM_SERVED = 5;
    private static final int SUMS = 6;

    private static final int ERROR_SYNTAX = 1;
    private static final int ERROR_TWICE = 2;
    private static final int ERROR_RANGE = 3;
    private static final int ERROR_TOO_MANY = 4;

    private final Parser parser = new Parser();
    private final Input input = parser.input;
    private final Ticker ticker = new Ticker();
    private final Layout layout = ticker.layout;
    private final State now = new State();
    private final State trial = new State();
    private final History history = new History();
    private final Snapshots snapshots = new Snapshots();
    private int lastErrorPosition = NONE;

    public RefreshTrader() {
    }

    // ---- text

    public int append(int a, int b, int c, int d, int e) {
        if (input.length + BYTES_OF_APPEND > MAX_BYTES) {
            return NONE;
        }
        input.put(a);
        input.put(b);
        input.put(c);
        input.put(d);
        input.put(e);
        return input.length;
    }

    public int parse(int length) throws IllegalArgumentException {
        if (length < 0 || length > input.length) {
            throw new IllegalArgumentException("length");
        }
        int code = parser.read(length);
        input.length = 0;
        if (code != 0) {
            lastErrorPosition = parser.errorPosition;
            return code;
        }
        lastErrorPosition = NONE;
        layout.copyFrom(parser.layout);
        now.copyFrom(parser.state);
        history.clear();
        snapshots.clear();
        return 0;
    }

    public int errorPosition() {
        return lastErrorPosition;
    }

    public int size(int what) throws IllegalArgumentException {
        switch (what) {
            case 0: return layout.banks;
            case 1: return layout.rows;
            case 2: return layout.bound;
            case 3: return layout.interval;
            case 4: return now.time;
            case 5: return now.requests.count;
            case 6: return now.requests.countIn(WAITING);
            case 7: return countLostRows();
            case 8: return countHotBanks();
            case 9: return now.trading ? 1 : 0;
            case 10: return history.count;
            default: throw new IllegalArgumentException("what");
        }
    }

    public int setting(int what) throws IllegalArgumentException {
        if (what < 0 || what >= SETTINGS) {
            throw new IllegalArgumentException("what");
        }
        return now.settings[what];
    }

    // ---- banks, rows, requests

    public int bank(int bank, int what) throws IndexOutOfBoundsException, IllegalArgumentException {
        requireBank(bank);
        switch (what) {
            case 0: return now.banks.debt[bank];
            case 1: return now.banks.heat[bank];
            case 2: return now.requests.countOfBank(bank, WAITING);
            case 3: return now.requests.countOfBank(bank, SERVED);
            case 4: return now.banks.refreshes[bank];
            case 5: return now.banks.given[bank];
            case 6: return now.banks.taken[bank];
            case 7: return now.banks.wish[bank];
            case 8: return now.banks.granted[bank];
            default: throw new IllegalArgumentException("what");
        }
    }

    public int row(int bank, int row, int what) throws IndexOutOfBoundsException, IllegalArgumentException {
        requireRow(bank, row);
        int cell = cellOf(bank, row);
        switch (what) {
            case 0: return now.rows.age[cell];
            case 1: return boundOf(layout, now, bank, row);
            case 2: return boundOf(layout, now, bank, row) - now.rows.age[cell];
            case 3: return now.rows.lost[cell];
            case 4: return now.rows.refreshes[cell];
            case 5: return now.rows.accesses[cell];
            case 6: return now.rows.losses[cell];
            case 7: return layout.weakBound[cell];
            case 8: return layout.weakFrom[cell];
            default: throw new IllegalArgumentException("what");
        }
    }

    public int request(int request, int what) throws IndexOutOfBoundsException, IllegalArgumentException {
        requireRequest(request);
        switch (what) {
            case 0: return now.requests.bank[request];
            case 1: return now.requests.row[request];
            case 2: return now.requests.comesAt[request];
            case 3: return now.requests.phase[request];
            case 4: return now.requests.servedAt[request];
            default: throw new IllegalArgumentException("what");
        }
    }

    public int waiting(int bank, int k) throws IndexOutOfBoundsException {
        requireBank(bank);
        return now.requests.inLineOf(bank, k);
    }

    public int weakest() {
        int found = 0;
        int least = FAR_ABOVE_ALL;
        for (int bank = 0; bank < layout.banks; bank++) {
            for (int row = 0; row < layout.rows; row++) {
                int remains = boundOf(layout, now, bank, row) - now.rows.age[cellOf(bank, row)];
                if (remains < least) {
                    least = remains;
                    found = 100 * bank + row;
                }
            }
        }
        return found;
    }

    // ---- what would be; nothing changes

    public int next(int bank, int what) throws IndexOutOfBoundsException, IllegalArgumentException {
        requireBank(bank);
        if (what < 0 || what > 3) {
            throw new IllegalArgumentException("what");
        }
        trial.copyFrom(now);
        ticker.tick(trial);
        switch (what) {
            case 0: return trial.banks.wish[bank];
            case 1: return trial.banks.granted[bank];
            case 2: return ticker.touched[bank];
            default: return ticker.serving[bank];
        }
    }

    public int nextLoss() {
        trial.copyFrom(now);
        return timeOfTrialLoss(MAX_AHEAD);
    }

    public int lossesAhead(int ticks) throws IllegalArgumentException {
        requireTicksAhead(ticks);
        trial.copyFrom(now);
        return ticker.run(trial, ticks);
    }

    public int leastSetting(int what, int ticks) throws IllegalArgumentException {
        if (what < 0 || what >= SETTINGS) {
            throw new IllegalArgumentException("what");
        }
        requireTicksAhead(ticks);
        for (int value = LEAST_OF_SETTING[what]; value <= MOST_OF_SETTING[what]; value++) {
            trial.copyFrom(now);
            trial.settings[what] = value;
            if (timeOfTrialLoss(ticks) == NONE) {
                return value;
            }
        }
        return NONE;
    }

    public int waitOf(int request) throws IndexOutOfBoundsException {
        requireRequest(request);
        trial.copyFrom(now);
        for (int ticks = 0; ticks < MAX_AHEAD && trial.requests.phase[request] != SERVED; ticks++) {
            ticker.tick(trial);
        }
        if (trial.requests.phase[request] != SERVED) {
            return NONE;
        }
        return trial.requests.servedAt[request] - trial.requests.comesAt[request];
    }

    public int gainOfTrading(int ticks) throws IllegalArgumentException {
        requireTicksAhead(ticks);
        return lossesWithTrading(false, ticks) - lossesWithTrading(true, ticks);
    }

    // ---- sums

    public double meanWait() {
        int served = now.sums[SUM_SERVED];
        if (served <= 0) {
            return 0.0;
        }
        return (double) now.sumOfWaits / served;
    }

    public int greatestWait() {
        return now.greatestOfWaits;
    }

    public boolean isWhole() {
        int debts = 0;
        for (int bank = 0; bank < layout.banks; bank++) {
            debts += now.banks.debt[bank];
        }
        return debts == now.sums[SUM_CAME] - now.sums[SUM_REFRESHES];
    }

    public int account(int what) throws IllegalArgumentException {
        if (what < 0 || what >= SUMS) {
            throw new IllegalArgumentException("what");
        }
        return now.sums[what];
    }

    // ---- changes

    public int pass(int ticks) throws IllegalArgumentException, IllegalStateException {
        if (ticks < 1 || ticks > MAX_PASS) {
            throw new IllegalArgumentException("ticks");
        }
        if (now.time + ticks > MAX_TIME) {
            throw new IllegalStateException("the time would be too great");
        }
        history.remember(now);
        return ticker.run(now, ticks);
    }

    public int ask(int bank, int row) throws IndexOutOfBoundsException, IllegalStateException {
        requireRow(bank, row);
        if (now.requests.count >= MAX_REQUESTS) {
            throw new IllegalStateException("too many requests");
        }
        history.remember(now);
        int request = now.requests.add(now.time, bank, row);
        now.requests.come(request);
        return request;
    }

    public int trade(int bank, int other)
            throws IndexOutOfBoundsException, IllegalArgumentException, IllegalStateException {
        requireBank(bank);
        requireBank(other);
        if (bank == other) {
            throw new IllegalArgumentException("a bank does not trade with itself");
        }
        if (!now.canTake(other) || now.banks.debt[bank] <= -now.settings[AHEAD]) {
            throw new IllegalStateException("these banks cannot trade");
        }
        history.remember(now);
        now.moveDebt(bank, other);
        return now.banks.debt[other];
    }

    public int set(int what, int value) throws IllegalArgumentException {
        if (what < 0 || what >= SETTINGS) {
            throw new IllegalArgumentException("what");
        }
        if (value < LEAST_OF_SETTING[what] || value > MOST_OF_SETTING[what]) {
            throw new IllegalArgumentException("value");
        }
        history.remember(now);
        int previous = now.settings[what];
        now.settings[what] = value;
        return previous;
    }

    public boolean setTrading(boolean trading) {
        history.remember(now);
        boolean previous = now.trading;
        now.trading = trading;
        return previous;
    }

    // ---- undo and snapshots

    public int undo() {
        return history.recall(now) ? history.count : NONE;
    }

    public boolean saveSnapshot(int slot) throws IndexOutOfBoundsException {
        requireSlot(slot);
        return snapshots.save(slot, now);
    }

    public int restoreSnapshot(int slot) throws IndexOutOfBoundsException, IllegalStateException {
        requireSlot(slot);
        if (!snapshots.restore(slot, now)) {
            throw new IllegalStateException("the slot is empty");
        }
        history.clear();
        return now.time;
    }

    // ---- help for the calls above

    private void requireBank(int bank) throws IndexOutOfBoundsException {
        if (!layout.hasBank(bank)) {
            throw new IndexOutOfBoundsException("bank");
        }
    }

    private void requireRow(int bank, int row) throws IndexOutOfBoundsException {
        if (!layout.hasBank(bank) || !layout.hasRow(row)) {
            throw new IndexOutOfBoundsException("bank or row");
        }
    }

    private void requireRequest(int request) throws IndexOutOfBoundsException {
        if (!now.requests.has(request)) {
            throw new IndexOutOfBoundsException("request");
        }
    }

    private void requireSlot(int slot) throws IndexOutOfBoundsException {
        if (slot < 0 || slot >= MAX_SNAPSHOTS) {
            throw new IndexOutOfBoundsException("slot");
        }
    }

    private void requireTicksAhead(int ticks) throws IllegalArgumentException {
        if (ticks < 1 || ticks > MAX_AHEAD) {
            throw new IllegalArgumentException("ticks");
        }
    }

    private int countLostRows() {
        int count = 0;
        for (int cell = 0; cell < MAX_CELLS; cell++) {
            count += now.rows.lost[cell];
        }
        return count;
    }

    private int countHotBanks() {
        int count = 0;
        for (int bank = 0; bank < layout.banks; bank++) {
            if (now.isHot(bank)) {
                count++;
            }
        }
        return count;
    }

    private int timeOfTrialLoss(int ticks) {
        for (int i = 0; i < ticks; i++) {
            int time = trial.time;
            if (ticker.tick(trial) > 0) {
                return time;
            }
        }
        return NONE;
    }

    private int lossesWithTrading(boolean trading, int ticks) {
        trial.copyFrom(now);
        trial.trading = trading;
        return ticker.run(trial, ticks);
    }

    private static int cellOf(int bank, int row) {
        return bank * MAX_ROWS + row;
    }

    private static int boundOf(Layout layout, State state, int bank, int row) {
        int bound = layout.coolBoundOf(cellOf(bank, row), state.time);
        return state.isHot(bank) ? Math.max(1, bound / 2) : bound;
    }

    private static void copy(int[] from, int[] to) {
        System.arraycopy(from, 0, to, 0, Math.min(from.length, to.length));
    }

    /** What a text says and no change alters, so that undo and snapshots need not hold it. */
    private static final class Layout {
        private int banks;
        private int rows;
        private int bound;
        private int interval;
        private int textRequests;
        private final int[] weakBound = new int[MAX_CELLS];
        private final int[] weakFrom = new int[MAX_CELLS];

        private Layout() {
            reset();
        }

        /** As the text "memory 1 1 4 1;" says. */
        private void reset() {
            banks = 1;
            rows = 1;
            bound = MIN_MEMORY_BOUND;
            interval = 1;
            textRequests = 0;
            Arrays.fill(weakBound, NONE);
            Arrays.fill(weakFrom, NONE);
        }

        private void copyFrom(Layout other) {
            banks = other.banks;
            rows = other.rows;
            bound = other.bound;
            interval = other.interval;
            textRequests = other.textRequests;
            copy(other.weakBound, weakBound);
            copy(other.weakFrom, weakFrom);
        }

        private boolean hasBank(int bank) {
            return bank >= 0 && bank < banks;
        }

        private boolean hasRow(int row) {
            return row >= 0 && row < rows;
        }

        /** The bound of a row at a time if its bank is not hot. */
        private int coolBoundOf(int cell, int time) {
            if (weakBound[cell] != NONE && time >= weakFrom[cell]) {
                return Math.min(bound, weakBound[cell]);
            }
            return bound;
        }
    }

    /** Everything that changes can change. */
    private static final class State {
        private int time;
        private boolean trading;
        private int sumOfWaits;
        private int greatestOfWaits;
        private final int[] settings = new int[SETTINGS];
        private final int[] sums = new int[SUMS];
        private final Banks banks = new Banks();
        private final Rows rows = new Rows();
        private final Requests requests = new Requests();

        private State() {
            reset();
        }

        private void reset() {
            time = 0;
            trading = false;
            sumOfWaits = 0;
            greatestOfWaits = NONE;
            copy(SETTING_IF_NOT_TOLD, settings);
            Arrays.fill(sums, 0);
            banks.reset();
            rows.reset();
            requests.reset();
        }

        private void copyFrom(State other) {
            time = other.time;
            trading = other.trading;
            sumOfWaits = other.sumOfWaits;
            greatestOfWaits = other.greatestOfWaits;
            copy(other.settings, settings);
            copy(other.sums, sums);
            banks.copyFrom(other.banks);
            rows.copyFrom(other.rows);
            requests.copyFrom(other.requests);
        }

        private boolean isHot(int bank) {
            return banks.heat[bank] >= settings[HOT];
        }

        private boolean canTake(int bank) {
            return !isHot(bank) && banks.debt[bank] < settings[MOST];
        }

        private void moveDebt(int from, int to) {
            banks.debt[from]--;
            banks.given[from]++;
            banks.debt[to]++;
            banks.taken[to]++;
            sums[SUM_TRADED]++;
        }

        private void refresh(int bank, int row) {
            int cell = cellOf(bank, row);
            rows.touch(cell);
            rows.refreshes[cell]++;
            banks.refreshes[bank]++;
            banks.debt[bank]--;
            sums[SUM_REFRESHES]++;
            if (banks.wish[bank] == WISH_URGENT) {
                sums[SUM_URGENT]++;
            }
        }

        private void serve(int bank, int request) {
            int cell = cellOf(bank, requests.row[request]);
            rows.touch(cell);
            rows.accesses[cell]++;
            requests.phase[request] = SERVED;
            requests.servedAt[request] = time;
            banks.heat[bank] += settings[GAIN];
            int waited = time - requests.comesAt[request];
            sums[SUM_SERVED]++;
            sumOfWaits += waited;
            greatestOfWaits = Math.max(greatestOfWaits, waited);
        }
    }

    /** What is kept of each bank. */
    private static final class Banks {
        private final int[] debt = new int[MAX_BANKS];
        private final int[] heat = new int[MAX_BANKS];
        private final int[] refreshes = new int[MAX_BANKS];
        private final int[] given = new int[MAX_BANKS];
        private final int[] taken = new int[MAX_BANKS];
        private final int[] wish = new int[MAX_BANKS];
        private final int[] granted = new int[MAX_BANKS];

        private void reset() {
            Arrays.fill(debt, 0);
            Arrays.fill(heat, 0);
            Arrays.fill(refreshes, 0);
            Arrays.fill(given, 0);
            Arrays.fill(taken, 0);
            Arrays.fill(wish, NONE);
            Arrays.fill(granted, NONE);
        }

        private void copyFrom(Banks other) {
            copy(other.debt, debt);
            copy(other.heat, heat);
            copy(other.refreshes, refreshes);
            copy(other.given, given);
            copy(other.taken, taken);
            copy(other.wish, wish);
            copy(other.granted, granted);
        }
    }

    /** What is kept of each row, those of all banks in one array (see cellOf). */
    private static final class Rows {
        private final int[] age = new int[MAX_CELLS];
        private final int[] lost = new int[MAX_CELLS];
        private final int[] refreshes = new int[MAX_CELLS];
        private final int[] accesses = new int[MAX_CELLS];
        private final int[] losses = new int[MAX_CELLS];

        private void reset() {
            Arrays.fill(age, 0);
            Arrays.fill(lost, 0);
            Arrays.fill(refreshes, 0);
            Arrays.fill(accesses, 0);
            Arrays.fill(losses, 0);
        }

        private void copyFrom(Rows other) {
            copy(other.age, age);
            copy(other.lost, lost);
            copy(other.refreshes, refreshes);
            copy(other.accesses, accesses);
            copy(other.losses, losses);
        }

        private void touch(int cell) {
            age[cell] = 0;
            lost[cell] = 0;
        }

        /** Returns 1 if the row becomes lost by this, otherwise 0. */
        private int grow(int cell, int bound) {
            age[cell]++;
            if (age[cell] <= bound || lost[cell] != 0) {
                return 0;
            }
            lost[cell] = 1;
            losses[cell]++;
            return 1;
        }
    }

    /** The requests by number, and the line of those that came, in the order in which they came. */
    private static final class Requests {
        private int count;
        private int came;
        private final int[] bank = new int[MAX_REQUESTS];
        private final int[] row = new int[MAX_REQUESTS];
        private final int[] comesAt = new int[MAX_REQUESTS];
        private final int[] phase = new int[MAX_REQUESTS];
        private final int[] servedAt = new int[MAX_REQUESTS];
        private final int[] line = new int[MAX_REQUESTS];

        private void reset() {
            count = 0;
            came = 0;
        }

        private void copyFrom(Requests other) {
            count = other.count;
            came = other.came;
            copy(other.bank, bank);
            copy(other.row, row);
            copy(other.comesAt, comesAt);
            copy(other.phase, phase);
            copy(other.servedAt, servedAt);
            copy(other.line, line);
        }

        private boolean has(int request) {
            return request >= 0 && request < count;
        }

        /** Returns the number of the new request, which is still to come; NONE if there is no room. */
        private int add(int tick, int ofBank, int ofRow) {
            if (count >= MAX_REQUESTS) {
                return NONE;
            }
            int request = count;
            bank[request] = ofBank;
            row[request] = ofRow;
            comesAt[request] = tick;
            phase[request] = TO_COME;
            servedAt[request] = NONE;
            count++;
            return request;
        }

        private void come(int request) {
            if (has(request) && phase[request] == TO_COME && came < MAX_REQUESTS) {
                phase[request] = WAITING;
                line[came] = request;
                came++;
            }
        }

        private int countIn(int wanted) {
            int found = 0;
            for (int request = 0; request < count; request++) {
                if (phase[request] == wanted) {
                    found++;
                }
            }
            return found;
        }

        private int countOfBank(int ofBank, int wanted) {
            int found = 0;
            for (int request = 0; request < count; request++) {
                if (bank[request] == ofBank && phase[request] == wanted) {
                    found++;
                }
            }
            return found;
        }

        /** The request of a bank that waits behind k others of it; NONE if there is none. */
        private int inLineOf(int ofBank, int k) {
            int ahead = 0;
            for (int place = 0; place < came; place++) {
                int request = line[place];
                if (has(request) && bank[request] == ofBank && phase[request] == WAITING) {
                    if (ahead == k) {
                        return request;
                    }
                    ahead++;
                }
            }
            return NONE;
        }
    }

    /**
     * Lets a state go through a tick; what the banks did in it stands here until the next one.
     * The layout here is that of the present memory.
     */
    private static final class Ticker {
        private final Layout layout = new Layout();
        private final int[] bound = new int[MAX_CELLS];
        private final int[] weakestRow = new int[MAX_BANKS];
        private final int[] leastRemains = new int[MAX_BANKS];
        private final int[] firstWaiting = new int[MAX_BANKS];
        private final int[] touched = new int[MAX_BANKS];
        private final int[] serving = new int[MAX_BANKS];

        private int run(State state, int ticks) {
            int losses = 0;
            for (int i = 0; i < ticks; i++) {
                losses += tick(state);
            }
            return losses;
        }

        /** Returns the number of losses. */
        private int tick(State state) {
            letRequestsCome(state);
            raiseDebts(state);
            if (state.trading) {
                tradeDebts(state);
            }
            for (int bank = 0; bank < layout.banks; bank++) {
                lookAt(state, bank);
                state.banks.wish[bank] = wishOf(state, bank);
            }
            grantWishes(state);
            for (int bank = 0; bank < layout.banks; bank++) {
                act(state, bank);
            }
            int losses = growRows(state);
            coolBanks(state);
            state.time++;
            return losses;
        }

        private void letRequestsCome(State state) {
            for (int request = 0; request < layout.textRequests; request++) {
                if (state.requests.comesAt[request] == state.time) {
                    state.requests.come(request);
                }
            }
        }

        private void raiseDebts(State state) {
            if (state.time <= 0 || layout.interval <= 0 || state.time % layout.interval != 0) {
                return;
            }
            for (int bank = 0; bank < layout.banks; bank++) {
                state.banks.debt[bank]++;
                state.sums[SUM_CAME]++;
            }
        }

        private void tradeDebts(State state) {
            for (int bank = 0; bank < layout.banks; bank++) {
                if (state.isHot(bank) && state.banks.debt[bank] > 0) {
                    int taker = coolestTaker(state);
                    if (taker != NONE) {
                        state.moveDebt(bank, taker);
                    }
                }
            }
        }

        private int coolestTaker(State state) {
            int found = NONE;
            int least = FAR_ABOVE_ALL;
            for (int bank = 0; bank < layout.banks; bank++) {
                if (state.canTake(bank) && state.banks.heat[bank] < least) {
                    least = state.banks.heat[bank];
                    found = bank;
                }
            }
            return found;
        }

        /** Keeps the bounds for step 7, which wants them with the heats of before step 6. */
        private void lookAt(State state, int bank) {
            leastRemains[bank] = FAR_ABOVE_ALL;
            weakestRow[bank] = 0;
            for (int row = 0; row < layout.rows; row++) {
                int cell = cellOf(bank, row);
                bound[cell] = boundOf(layout, state, bank, row);
                int remains = bound[cell] - state.rows.age[cell];
                if (remains < leastRemains[bank]) {
                    leastRemains[bank] = remains;
                    weakestRow[bank] = row;
                }
            }
            firstWaiting[bank] = state.requests.inLineOf(bank, 0);
        }

        private int wishOf(State state, int bank) {
            int debt = state.banks.debt[bank];
            int first = firstWaiting[bank];
            boolean waits = state.requests.has(first);
            if (leastRemains[bank] <= state.settings[MARGIN]) {
                return WISH_URGENT;
            }
            if (waits && state.time - state.requests.comesAt[first] >= state.settings[PATIENCE]) {
                return WISH_PATIENCE;
            }
            if (debt >= state.settings[MOST]) {
                return WISH_FORCED;
            }
            if (waits) {
                return WISH_SERVE;
            }
            if (debt > 0) {
                return WISH_DEBT;
            }
            return debt > -state.settings[AHEAD] ? WISH_AHEAD : WISH_NONE;
        }

        private static boolean isForRefresh(int wish) {
            return wish == WISH_URGENT || wish == WISH_FORCED || wish == WISH_DEBT || wish == WISH_AHEAD;
        }

        private static boolean isForService(int wish) {
            return wish == WISH_PATIENCE || wish == WISH_SERVE;
        }

        private void grantWishes(State state) {
            for (int bank = 0; bank < layout.banks; bank++) {
                state.banks.granted[bank] = isForService(state.banks.wish[bank]) ? 1 : 0;
            }
            for (int slot = 0; slot < state.settings[SLOTS]; slot++) {
                int bank = firstUngranted(state);
                if (bank == NONE) {
                    return;
                }
                state.banks.granted[bank] = 1;
            }
        }

        /** The bank whose wish to refresh is to be granted ahead of the others'; NONE if there is none. */
        private int firstUngranted(State state) {
            int found = NONE;
            for (int bank = 0; bank < layout.banks; bank++) {
                if (isForRefresh(state.banks.wish[bank]) && state.banks.granted[bank] == 0
                        && (found == NONE || isAhead(state, bank, found))) {
                    found = bank;
                }
            }
            return found;
        }

        private boolean isAhead(State state, int bank, int other) {
            int wish = state.banks.wish[bank];
            int otherWish = state.banks.wish[other];
            if (wish != otherWish) {
                return wish < otherWish;
            }
            if (wish == WISH_URGENT) {
                return leastRemains[bank] < leastRemains[other];
            }
            return state.banks.debt[bank] > state.banks.debt[other];
        }

        private void act(State state, int bank) {
            touched[bank] = NONE;
            serving[bank] = NONE;
            int first = firstWaiting[bank];
            if (isForRefresh(state.banks.wish[bank]) && state.banks.granted[bank] == 1) {
                touched[bank] = weakestRow[bank];
                state.refresh(bank, weakestRow[bank]);
            } else if (state.requests.has(first)) {
                touched[bank] = state.requests.row[first];
                serving[bank] = first;
                state.serve(bank, first);
            }
        }

        private int growRows(State state) {
            int losses = 0;
            for (int bank = 0; bank < layout.banks; bank++) {
                for (int row = 0; row < layout.rows; row++) {
                    if (row != touched[bank]) {
                        int cell = cellOf(bank, row);
                        losses += state.rows.grow(cell, bound[cell]);
                    }
                }
            }
            state.sums[SUM_LOSSES] += losses;
            return losses;
        }

        private void coolBanks(State state) {
            for (int bank = 0; bank < layout.banks; bank++) {
                if (serving[bank] == NONE && state.banks.heat[bank] > 0) {
                    state.banks.heat[bank]--;
                }
            }
        }
    }

    /** The states ahead of the latest changes, in a ring. */
    private static final class History {
        private final State[] states = new State[MAX_UNDO];
        private int end;
        private int count;

        private History() {
            for (int i = 0; i < MAX_UNDO; i++) {
                states[i] = new State();
            }
        }

        private void clear() {
            count = 0;
        }

        private void remember(State state) {
            State place = states[end];
            if (place != null) {
                place.copyFrom(state);
                end = end + 1 < MAX_UNDO ? end + 1 : 0;
                count = Math.min(count + 1, MAX_UNDO);
            }
        }

        /** Brings back the latest state; returns whether there was one. */
        private boolean recall(State state) {
            int latest = end > 0 ? end - 1 : MAX_UNDO - 1;
            State place = states[latest];
            if (count <= 0 || place == null) {
                return false;
            }
            state.copyFrom(place);
            end = latest;
            count--;
            return true;
        }
    }

    private static final class Snapshots {
        private final State[] states = new State[MAX_SNAPSHOTS];
        private final boolean[] isSaved = new boolean[MAX_SNAPSHOTS];

        private Snapshots() {
            for (int slot = 0; slot < MAX_SNAPSHOTS; slot++) {
                states[slot] = new State();
            }
        }

        private void clear() {
            for (int slot = 0; slot < MAX_SNAPSHOTS; slot++) {
                isSaved[slot] = false;
            }
        }

        /** Returns whether the slot held a snapshot before. */
        private boolean save(int slot, State state) {
            boolean before = isSaved[slot];
            State place = states[slot];
            if (place != null) {
                place.copyFrom(state);
                isSaved[slot] = true;
            }
            return before;
        }

        /** Returns whether the slot holds a snapshot. */
        private boolean restore(int slot, State state) {
            State place = states[slot];
            if (!isSaved[slot] || place == null) {
                return false;
            }
            state.copyFrom(place);
            return true;
        }
    }

    /** The input buffer, and the cutting of a text in it into tokens. */
    private static final class Input {
        private static final int END = 0;
        private static final int WORD = 1;
        private static final int NUMBER = 2;
        private static final int SEMICOLON = 3;
        private static final int INVALID = 4;
        private static final int BLANK = 5;
        private static final int MAX_LETTERS = 8;
        private static final int MAX_DIGITS = 3;

        private final byte[] bytes = new byte[MAX_BYTES];
        private int length;

        private int textLength;
        private int kind;
        private int start;
        private int end;

        private void put(int word) {
            for (int shift = 24; shift >= 0 && length < MAX_BYTES; shift -= 8) {
                bytes[length] = (byte) (word >>> shift);
                length++;
            }
        }

        /** Goes to the start of the text that the first bytes of the buffer are. */
        private void open(int ofLength) {
            textLength = Math.min(ofLength, length);
            kind = END;
            start = 0;
            end = 0;
        }

        /** Goes on to the token behind the present one. */
        private void scan() {
            start = end;
            while (start < textLength && sortOf(bytes[start]) == BLANK) {
                start++;
            }
            end = start;
            if (start >= textLength) {
                kind = END;
                return;
            }
            kind = sortOf(bytes[start]);
            end++;
            boolean isRun = kind == WORD || kind == NUMBER;
            while (isRun && end < textLength && sortOf(bytes[end]) == kind) {
                end++;
            }
            if (isRun && end - start > (kind == WORD ? MAX_LETTERS : MAX_DIGITS)) {
                kind = INVALID;
            }
        }

        private boolean isWord(String word) {
            if (kind != WORD || end - start != word.length()) {
                return false;
            }
            for (int i = 0; i < word.length(); i++) {
                if (bytes[start + i] != word.charAt(i)) {
                    return false;
                }
            }
            return true;
        }

        private int valueOfNumber() {
            int value = 0;
            for (int i = start; i < end; i++) {
                value = 10 * value + (bytes[i] - '0');
            }
            return value;
        }

        private static int sortOf(byte b) {
            if (b >= 'a' && b <= 'z') {
                return WORD;
            }
            if (b >= '0' && b <= '9') {
                return NUMBER;
            }
            if (b == ';') {
                return SEMICOLON;
            }
            return b == ' ' || b == '\n' ? BLANK : INVALID;
        }
    }

    /**
     * Reads a text into a layout and a state of its own, so that an error leaves the present memory
     * as it is. Each method that takes a part of the text answers whether that part was right; if it
     * was not, the error is noted and nothing more is read.
     */
    private static final class Parser {
        private final Input input = new Input();
        private final Layout layout = new Layout();
        private final State state = new State();
        private final boolean[] isTold = new boolean[SETTINGS];
        private int value;
        private int errorCode;
        private int errorPosition;

        /** Returns 0, or the code of the error. */
        private int read(int length) {
            begin(length);
            boolean isRight = takeHead();
            for (int i = 0; isRight && i <= MAX_BYTES; i++) {
                input.scan();
                if (input.kind == Input.END) {
                    return 0;
                }
                isRight = takeStatement() && takeSemicolon();
            }
            return errorCode;
        }

        private void begin(int length) {
            layout.reset();
            state.reset();
            for (int what = 0; what < SETTINGS; what++) {
                isTold[what] = false;
            }
            errorCode = ERROR_SYNTAX;
            errorPosition = 0;
            input.open(length);
        }

        private boolean fail(int code) {
            errorCode = code;
            errorPosition = input.start;
            return false;
        }

        private boolean takeHead() {
            input.scan();
            if (!input.isWord("memory")) {
                return fail(ERROR_SYNTAX);
            }
            if (!takeNumber(1, MAX_BANKS)) {
                return false;
            }
            layout.banks = value;
            if (!takeNumber(1, MAX_ROWS)) {
                return false;
            }
            layout.rows = value;
            if (!takeNumber(MIN_MEMORY_BOUND, MAX_BOUND)) {
                return false;
            }
            layout.bound = value;
            if (!takeNumber(1, MAX_INTERVAL)) {
                return false;
            }
            layout.interval = value;
            return takeSemicolon();
        }

        private boolean takeStatement() {
            if (input.isWord("weak")) {
                return takeWeak();
            }
            if (input.isWord("ask")) {
                return takeAsk();
            }
            if (input.isWord("trading")) {
                return takeTrading();
            }
            for (int what = 0; what < SETTINGS; what++) {
                if (input.isWord(wordOfSetting(what))) {
                    return takeSetting(what);
                }
            }
            return fail(ERROR_SYNTAX);
        }

        private boolean takeWeak() {
            if (!takeNumber(0, layout.banks - 1)) {
                return false;
            }
            int bank = value;
            if (!takeNumber(0, layout.rows - 1)) {
                return false;
            }
            int cell = cellOf(bank, value);
            if (layout.weakBound[cell] != NONE) {
                return fail(ERROR_TWICE);
            }
            if (!takeNumber(1, MAX_BOUND)) {
                return false;
            }
            layout.weakBound[cell] = value;
            if (!takeNumber(0, MAX_TICK)) {
                return false;
            }
            layout.weakFrom[cell] = value;
            return true;
        }

        private boolean takeAsk() {
            if (layout.textRequests >= MAX_TEXT_REQUESTS) {
                return fail(ERROR_TOO_MANY);
            }
            if (!takeNumber(0, MAX_TICK)) {
                return false;
            }
            int tick = value;
            if (!takeNumber(0, layout.banks - 1)) {
                return false;
            }
            int bank = value;
            if (!takeNumber(0, layout.rows - 1)) {
                return false;
            }
            state.requests.add(tick, bank, value);
            layout.textRequests++;
            return true;
        }

        private boolean takeTrading() {
            if (state.trading) {
                return fail(ERROR_TWICE);
            }
            state.trading = true;
            return true;
        }

        private boolean takeSetting(int what) {
            if (isTold[what]) {
                return fail(ERROR_TWICE);
            }
            isTold[what] = true;
            if (!takeNumber(LEAST_OF_SETTING[what], MOST_OF_SETTING[what])) {
                return false;
            }
            state.settings[what] = value;
            return true;
        }

        private boolean takeNumber(int least, int greatest) {
            input.scan();
            if (input.kind != Input.NUMBER) {
                return fail(ERROR_SYNTAX);
            }
            value = input.valueOfNumber();
            if (value < least || value > greatest) {
                return fail(ERROR_RANGE);
            }
            return true;
        }

        private boolean takeSemicolon() {
            input.scan();
            return input.kind == Input.SEMICOLON || fail(ERROR_SYNTAX);
        }

        private static String wordOfSetting(int what) {
            switch (what) {
                case SLOTS: return "slots";
                case MOST: return "most";
                case AHEAD: return "ahead";
                case HOT: return "hot";
                case GAIN: return "gain";
                case PATIENCE: return "patience";
                default: return "margin";
            }
        }
    }
}
