import java.util.Arrays;

/**
 * A memory of banks and rows behind several channels, and a checker of any row of commands by the
 * same rules. The document ../shared/DOC.md tells every promise by its number.
 */
public final class BankTimes {
    public static final int NONE = -1;

    private static final int ACTIVATE = 0;
    private static final int READ = 1;
    private static final int WRITE = 2;
    private static final int CLOSE = 3;
    private static final int REFRESH = 4;
    private static final int KINDS = 5;

    private static final int FIRST = 0;
    private static final int ROWS = 1;
    private static final int READS = 2;
    private static final int SCHEDULERS = 4;

    private static final int COLUMN_BITS = 4;
    private static final int MOST_ADDRESS = 1048575;
    private static final int MOST_ROW = 65535;
    private static final int MOST_TIME = 100;
    private static final int LEAST_SPAN = 50;
    private static final int MOST_SPAN = 10000;
    private static final int MOST_CYCLES = 1000;

    // An object is promised for 512 calls, so no more asks than that can come.
    private static final int MOST_ASKS = 512;

    private static final int RULE_CYCLE = 1;
    private static final int RULE_BANK = 2;
    private static final int RULE_TIMES = 3;

    private static final int[] FIRST_TIMES = {3, 3, 7, 2, 4, 5, 2, 10, 12};

    private final int channelBits;
    private final int bankBits;
    private final int bankCount;
    private final int scheduler;
    private final int[] times;
    private final Channel[] channels;
    private final Rules[] checkers;
    private final Log log;
    private final int[] doneCycles;
    private int spanCycles;
    private int cycle;
    private int askCount;
    private int doneCount;
    private int waitedCycles;

    public BankTimes(int channels, int banks, int scheduler) {
        this.channelBits = Math.floorMod(channels, 2);
        this.bankBits = Math.floorMod(banks, 4);
        this.bankCount = 1 << bankBits;
        this.scheduler = Math.floorMod(scheduler, SCHEDULERS);
        // One row of times for all, so that memory and checker see a change at once.
        int[] shared = FIRST_TIMES.clone();
        this.times = shared;
        int channelCount = 1 + channelBits;
        this.channels = new Channel[channelCount];
        this.checkers = new Rules[channelCount];
        for (int c = 0; c < channelCount; c++) {
            this.channels[c] = new Channel(bankCount, shared);
            this.checkers[c] = new Rules(bankCount, shared);
        }
        this.log = new Log();
        this.doneCycles = new int[MOST_ASKS];
    }

    public int time(int what, int cycles)
            throws IndexOutOfBoundsException, IllegalArgumentException, IllegalStateException {
        if (what < 0 || what >= times.length) {
            throw new IndexOutOfBoundsException("there is no such time");
        }
        if (cycles < 1 || cycles > MOST_TIME) {
            throw new IllegalArgumentException("a time is 1 .. 100 cycles");
        }
        if (doneCount < askCount || anyRowOpen()) {
            throw new IllegalStateException("an ask waits or a row is open");
        }
        int before = times[what];
        times[what] = cycles;
        return before;
    }

    public int span(int cycles) throws IllegalArgumentException {
        if (cycles != 0 && (cycles < LEAST_SPAN || cycles > MOST_SPAN)) {
            throw new IllegalArgumentException("a span is 0 or 50 .. 10000 cycles");
        }
        int before = spanCycles;
        spanCycles = cycles;
        return before;
    }

    public int ask(int address, boolean write)
            throws IllegalArgumentException, UnsupportedOperationException {
        if (!isAddress(address)) {
            throw new IllegalArgumentException("an address is 0 .. 1048575");
        }
        Queue queue = channels[channelOf(address)].queue;
        if (queue.isFull() || askCount >= MOST_ASKS) {
            throw new UnsupportedOperationException("the channel's queue is full");
        }
        int number = askCount;
        queue.add(number, cycle, bankOf(address), rowOf(address), write);
        doneCycles[number] = NONE;
        askCount++;
        return number;
    }

    public int run(int n) throws IllegalArgumentException {
        if (n < 1 || n > MOST_CYCLES) {
            throw new IllegalArgumentException("a run is 1 .. 1000 cycles");
        }
        int before = doneCount;
        for (int i = 0; i < n; i++) {
            step();
        }
        return doneCount - before;
    }

    public int done(int ask) throws IndexOutOfBoundsException {
        if (ask < 0 || ask >= askCount) {
            throw new IndexOutOfBoundsException("there is no such ask");
        }
        return doneCycles[ask];
    }

    public int command(int k, int what) throws IndexOutOfBoundsException {
        if (k < 0 || k >= log.kept || what < 0 || what >= Log.PARTS) {
            throw new IndexOutOfBoundsException("there is no such command or part of it");
        }
        return log.partOf(k, what);
    }

    public int open(int channel, int bank) throws IndexOutOfBoundsException {
        if (channel < 0 || channel >= channels.length || bank < 0 || bank >= bankCount) {
            throw new IndexOutOfBoundsException("there is no such channel or bank");
        }
        return channels[channel].rules.openRows[bank];
    }

    public int part(int address, int what) throws IllegalArgumentException {
        if (!isAddress(address)) {
            throw new IllegalArgumentException("an address is 0 .. 1048575");
        }
        switch (what) {
            case 0:
                return channelOf(address);
            case 1:
                return bankOf(address);
            case 2:
                return rowOf(address);
            case 3:
                return address & ((1 << COLUMN_BITS) - 1);
            default:
                throw new IllegalArgumentException("an address has the parts 0 .. 3");
        }
    }

    public void begin() {
        for (int c = 0; c < checkers.length; c++) {
            checkers[c].forget();
        }
    }

    public int check(int channel, int cycle, int kind, int bank, int row)
            throws IllegalArgumentException {
        if (channel < 0 || channel >= checkers.length || kind < 0 || kind >= KINDS) {
            throw new IllegalArgumentException("there is no such channel or kind");
        }
        if (bank < 0 || bank >= bankCount || cycle < 0 || row < 0 || row > MOST_ROW) {
            throw new IllegalArgumentException("there is no such bank, cycle or row");
        }
        if (kind == REFRESH && (bank != 0 || row != 0)) {
            throw new IllegalArgumentException("bank and row of a REFRESH are 0");
        }
        Rules rules = checkers[channel];
        int broken = rules.brokenRule(cycle, kind, bank, row);
        if (broken == 0) {
            rules.take(cycle, kind, bank, row);
        }
        return broken;
    }

    public int count(int what) {
        if (what >= 4 && what < 4 + KINDS) {
            return log.ofKind[what - 4];
        }
        switch (what) {
            case 0:
                return cycle;
            case 1:
                return askCount;
            case 2:
                return doneCount;
            case 3:
                return log.total;
            case 9:
                return dueRefreshes();
            case 10:
                return askCount - doneCount;
            case 11:
                return waitedCycles;
            case 12:
                return channels.length;
            case 13:
                return bankCount;
            default:
                return NONE;
        }
    }

    private static boolean isAddress(int address) {
        return address >= 0 && address <= MOST_ADDRESS;
    }

    private int channelOf(int address) {
        return (address >> COLUMN_BITS) & (channels.length - 1);
    }

    private int bankOf(int address) {
        return (address >> (COLUMN_BITS + channelBits)) & (bankCount - 1);
    }

    private int rowOf(int address) {
        return address >> (COLUMN_BITS + channelBits + bankBits);
    }

    private boolean anyRowOpen() {
        for (int c = 0; c < channels.length; c++) {
            if (channels[c].rules.anyOpen()) {
                return true;
            }
        }
        return false;
    }

    private int dueRefreshes() {
        int due = 0;
        for (int c = 0; c < channels.length; c++) {
            if (channels[c].refreshDue) {
                due++;
            }
        }
        return due;
    }

    private void step() {
        cycle++;
        boolean comesDue = spanCycles > 0 && cycle % spanCycles == 0;
        for (int c = 0; c < channels.length; c++) {
            Channel channel = channels[c];
            if (comesDue) {
                channel.refreshDue = true;
            }
            if (channel.refreshDue) {
                refresh(c);
                continue;
            }
            int at = channel.chosen(scheduler, cycle);
            if (at != NONE) {
                serve(c, at);
            }
        }
    }

    private void refresh(int c) {
        Channel channel = channels[c];
        Rules rules = channel.rules;
        if (rules.anyOpen()) {
            int bank = rules.lowestToClose(cycle);
            if (bank != NONE) {
                give(c, CLOSE, bank, rules.openRows[bank]);
            }
        } else if (rules.brokenTime(cycle, REFRESH, 0) == NONE) {
            give(c, REFRESH, 0, 0);
            channel.refreshDue = false;
        }
    }

    private void serve(int c, int at) {
        Channel channel = channels[c];
        Queue queue = channel.queue;
        int kind = channel.nextKind(at);
        int bank = queue.banks[at];
        channel.lastBank = bank;
        give(c, kind, bank, kind == CLOSE ? channel.rules.openRows[bank] : queue.rows[at]);
        if (kind == READ || kind == WRITE) {
            doneCycles[queue.numbers[at]] = cycle;
            waitedCycles += cycle - queue.came[at];
            doneCount++;
            queue.removeAt(at);
        }
    }

    private void give(int c, int kind, int bank, int row) {
        channels[c].rules.take(cycle, kind, bank, row);
        log.add(c, cycle, kind, bank, row);
    }

    /**
     * What the rules must know of one channel: its open rows and when commands last came. The memory
     * and the checker each have their own, so that both go by the very same rules.
     */
    private static final class Rules {
        private static final int WINDOW = 4;

        final int[] times;
        final int[] openRows;
        // Cycles of each bank's latest command of a kind; a CLOSE does not wipe them out, for a time
        // may be made longer later on and then binds with what came before.
        final int[] activated;
        final int[] read;
        final int[] written;
        final int[] closed;
        // The channel's latest ACTIVATES, the latest one first.
        final int[] activates;
        int lastColumn;
        int lastWrite;
        int lastRefresh;
        int lastCycle;

        Rules(int banks, int[] times) {
            this.times = times;
            this.openRows = new int[banks];
            this.activated = new int[banks];
            this.read = new int[banks];
            this.written = new int[banks];
            this.closed = new int[banks];
            this.activates = new int[WINDOW];
            forget();
        }

        void forget() {
            Arrays.fill(openRows, NONE);
            Arrays.fill(activated, NONE);
            Arrays.fill(read, NONE);
            Arrays.fill(written, NONE);
            Arrays.fill(closed, NONE);
            Arrays.fill(activates, NONE);
            lastColumn = NONE;
            lastWrite = NONE;
            lastRefresh = NONE;
            lastCycle = NONE;
        }

        boolean anyOpen() {
            for (int b = 0; b < openRows.length; b++) {
                if (openRows[b] != NONE) {
                    return true;
                }
            }
            return false;
        }

        int lowestToClose(int cycle) {
            for (int b = 0; b < openRows.length; b++) {
                if (openRows[b] != NONE && brokenTime(cycle, CLOSE, b) == NONE) {
                    return b;
                }
            }
            return NONE;
        }

        int brokenRule(int cycle, int kind, int bank, int row) {
            if (cycle <= lastCycle) {
                return RULE_CYCLE;
            }
            if (!fitsBank(kind, bank, row)) {
                return RULE_BANK;
            }
            int broken = brokenTime(cycle, kind, bank);
            return broken == NONE ? 0 : RULE_TIMES + broken;
        }

        private boolean fitsBank(int kind, int bank, int row) {
            switch (kind) {
                case ACTIVATE:
                    return openRows[bank] == NONE;
                case CLOSE:
                    return openRows[bank] != NONE;
                case REFRESH:
                    return !anyOpen();
                default:
                    return openRows[bank] == row;
            }
        }

        /** The lowest number of the times that this command would break, or NONE. */
        int brokenTime(int cycle, int kind, int bank) {
            for (int w = 0; w < times.length; w++) {
                int from = startOf(w, kind, bank);
                if (from != NONE && cycle - from < times[w]) {
                    return w;
                }
            }
            return NONE;
        }

        /** The cycle from which time w binds this command, or NONE if it does not. */
        private int startOf(int w, int kind, int bank) {
            boolean column = kind == READ || kind == WRITE;
            switch (w) {
                case 0:
                    return column ? activated[bank] : NONE;
                case 1:
                    return kind == ACTIVATE ? closed[bank] : NONE;
                case 2:
                    return kind == CLOSE ? activated[bank] : NONE;
                case 3:
                    return column ? lastColumn : kind == CLOSE ? read[bank] : NONE;
                case 4:
                    return kind == READ ? lastWrite : NONE;
                case 5:
                    return kind == CLOSE ? written[bank] : NONE;
                case 6:
                    return kind == ACTIVATE ? activates[0] : NONE;
                case 7:
                    return lastRefresh;
                case 8:
                    return kind == ACTIVATE ? activates[WINDOW - 1] : NONE;
                default:
                    return NONE;
            }
        }

        void take(int cycle, int kind, int bank, int row) {
            lastCycle = cycle;
            switch (kind) {
                case ACTIVATE:
                    openRows[bank] = row;
                    activated[bank] = cycle;
                    for (int i = WINDOW - 1; i > 0; i--) {
                        activates[i] = activates[i - 1];
                    }
                    activates[0] = cycle;
                    break;
                case READ:
                    read[bank] = cycle;
                    lastColumn = cycle;
                    break;
                case WRITE:
                    written[bank] = cycle;
                    lastColumn = cycle;
                    lastWrite = cycle;
                    break;
                case CLOSE:
                    openRows[bank] = NONE;
                    closed[bank] = cycle;
                    break;
                default:
                    lastRefresh = cycle;
                    break;
            }
        }
    }

    /** The asks that wait in one channel, the oldest first. */
    private static final class Queue {
        private static final int ROOM = 8;

        final int[] numbers = new int[ROOM];
        final int[] came = new int[ROOM];
        final int[] banks = new int[ROOM];
        final int[] rows = new int[ROOM];
        final boolean[] writes = new boolean[ROOM];
        int size;
        int writeCount;

        boolean isFull() {
            return size >= ROOM;
        }

        void add(int number, int cycle, int bank, int row, boolean write) {
            numbers[size] = number;
            came[size] = cycle;
            banks[size] = bank;
            rows[size] = row;
            writes[size] = write;
            size++;
            if (write) {
                writeCount++;
            }
        }

        void removeAt(int at) {
            if (writes[at]) {
                writeCount--;
            }
            size--;
            for (int i = at; i < size; i++) {
                numbers[i] = numbers[i + 1];
                came[i] = came[i + 1];
                banks[i] = banks[i + 1];
                rows[i] = rows[i + 1];
                writes[i] = writes[i + 1];
            }
        }

        int oldestOf(int bank) {
            for (int i = 0; i < size; i++) {
                if (banks[i] == bank) {
                    return i;
                }
            }
            return NONE;
        }
    }

    /** One channel of the memory: its banks, its queue, and how the schedulers choose from it. */
    private static final class Channel {
        private static final int ALL = 0;
        private static final int READS_ALONE = 1;
        private static final int WRITES_ALONE = 2;
        private static final int MANY_WRITES = 5;

        final Rules rules;
        final Queue queue;
        final int bankCount;
        boolean refreshDue;
        // NONE at first, so that the turn behind it is that of bank 0.
        int lastBank = NONE;

        Channel(int banks, int[] times) {
            this.rules = new Rules(banks, times);
            this.queue = new Queue();
            this.bankCount = banks;
        }

        /** The place in the queue of the ask that the scheduler names, or NONE. */
        int chosen(int scheduler, int cycle) {
            if (queue.size == 0) {
                return NONE;
            }
            switch (scheduler) {
                case FIRST:
                    return isReady(0, cycle) ? 0 : NONE;
                case ROWS:
                    return chosenByRows(ALL, cycle);
                case READS:
                    boolean reads = queue.writeCount < queue.size && queue.writeCount < MANY_WRITES;
                    return chosenByRows(reads ? READS_ALONE : WRITES_ALONE, cycle);
                default:
                    return chosenByTurns(cycle);
            }
        }

        int nextKind(int at) {
            int row = rules.openRows[queue.banks[at]];
            if (row == NONE) {
                return ACTIVATE;
            }
            if (row != queue.rows[at]) {
                return CLOSE;
            }
            return queue.writes[at] ? WRITE : READ;
        }

        private boolean isReady(int at, int cycle) {
            return rules.brokenTime(cycle, nextKind(at), queue.banks[at]) == NONE;
        }

        private int chosenByRows(int among, int cycle) {
            int other = NONE;
            for (int i = 0; i < queue.size; i++) {
                if (!isAmong(i, among) || !isReady(i, cycle)) {
                    continue;
                }
                int kind = nextKind(i);
                if (kind == READ || kind == WRITE) {
                    return i;
                }
                if (other == NONE && (kind != CLOSE || !openRowIsWanted(queue.banks[i], among))) {
                    other = i;
                }
            }
            return other;
        }

        private boolean isAmong(int at, int among) {
            return among == ALL || queue.writes[at] == (among == WRITES_ALONE);
        }

        private boolean openRowIsWanted(int bank, int among) {
            for (int i = 0; i < queue.size; i++) {
                if (isAmong(i, among)
                        && queue.banks[i] == bank
                        && queue.rows[i] == rules.openRows[bank]) {
                    return true;
                }
            }
            return false;
        }

        private int chosenByTurns(int cycle) {
            for (int i = 1; i <= bankCount; i++) {
                int at = queue.oldestOf((lastBank + i) & (bankCount - 1));
                if (at != NONE && isReady(at, cycle)) {
                    return at;
                }
            }
            return NONE;
        }
    }

    /** The latest commands of the memory in a ring, and the numbers of all that there were. */
    private static final class Log {
        static final int PARTS = 5;
        private static final int ROOM = 512;

        final int[] parts = new int[ROOM * PARTS];
        final int[] ofKind = new int[KINDS];
        int oldest;
        int kept;
        int total;

        void add(int channel, int cycle, int kind, int bank, int row) {
            int at = placeOf(kept);
            parts[at] = channel;
            parts[at + 1] = cycle;
            parts[at + 2] = kind;
            parts[at + 3] = bank;
            parts[at + 4] = row;
            if (kept < ROOM) {
                kept++;
            } else {
                oldest = (oldest + 1) % ROOM;
            }
            ofKind[kind]++;
            total++;
        }

        int partOf(int k, int what) {
            return parts[placeOf(k) + what];
        }

        // One behind the newest is the oldest's place once the ring is full.
        private int placeOf(int k) {
            return (oldest + k) % ROOM * PARTS;
        }
    }
}
