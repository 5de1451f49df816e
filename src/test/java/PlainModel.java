import java.util.ArrayList;
import java.util.List;

/**
 * The document told once more in the slowest way: whole histories, and every time looked up between
 * every two commands. It shares no thought with the class but the document itself.
 */
final class PlainModel {
    record Command(int channel, int cycle, int kind, int bank, int row) {
        boolean column() {
            return kind == 1 || kind == 2;
        }
    }

    record Ask(int number, int came, int channel, int bank, int row, boolean write) {}

    final int channels;
    final int banks;
    final int scheduler;
    final int[] times = {3, 3, 7, 2, 4, 5, 2, 10, 12};
    final List<Command> given = new ArrayList<>();
    final List<List<Command>> givenIn = new ArrayList<>();
    final List<List<Command>> checkedIn = new ArrayList<>();
    final List<List<Ask>> queues = new ArrayList<>();
    final List<Ask> asks = new ArrayList<>();
    final List<Integer> doneAt = new ArrayList<>();
    final boolean[] due;
    final int[] lastBank;
    int span;
    int cycle;

    PlainModel(int channels, int banks, int scheduler) {
        this.channels = (channels & 1) == 0 ? 1 : 2;
        this.banks = (int) Math.pow(2, banks & 3);
        this.scheduler = scheduler & 3;
        this.due = new boolean[this.channels];
        this.lastBank = new int[this.channels];
        for (int c = 0; c < this.channels; c++) {
            givenIn.add(new ArrayList<>());
            checkedIn.add(new ArrayList<>());
            queues.add(new ArrayList<>());
            lastBank[c] = this.banks - 1;
        }
    }

    int time(int what, int cycles) {
        if (what < 0 || what > 8) {
            throw new IndexOutOfBoundsException();
        }
        if (cycles < 1 || cycles > 100) {
            throw new IllegalArgumentException();
        }
        for (int c = 0; c < channels; c++) {
            if (!queues.get(c).isEmpty() || anyOpen(givenIn.get(c))) {
                throw new IllegalStateException();
            }
        }
        int before = times[what];
        times[what] = cycles;
        return before;
    }

    int span(int cycles) {
        if (cycles != 0 && !(cycles >= 50 && cycles <= 10000)) {
            throw new IllegalArgumentException();
        }
        int before = span;
        span = cycles;
        return before;
    }

    int ask(int address, boolean write) {
        int channel = part(address, 0);
        if (queues.get(channel).size() == 8) {
            throw new UnsupportedOperationException();
        }
        Ask a = new Ask(asks.size(), cycle, channel, part(address, 1), part(address, 2), write);
        asks.add(a);
        queues.get(channel).add(a);
        doneAt.add(-1);
        return a.number();
    }

    int run(int n) {
        if (n < 1 || n > 1000) {
            throw new IllegalArgumentException();
        }
        int waiting = count(10);
        for (int i = 0; i < n; i++) {
            cycle++;
            for (int c = 0; c < channels; c++) {
                step(c);
            }
        }
        return waiting - count(10);
    }

    int done(int ask) {
        if (ask < 0 || ask >= asks.size()) {
            throw new IndexOutOfBoundsException();
        }
        return doneAt.get(ask);
    }

    int command(int k, int what) {
        int kept = Math.min(512, given.size());
        if (k < 0 || k >= kept || what < 0 || what > 4) {
            throw new IndexOutOfBoundsException();
        }
        Command x = given.get(given.size() - kept + k);
        return new int[] {x.channel(), x.cycle(), x.kind(), x.bank(), x.row()}[what];
    }

    int open(int channel, int bank) {
        if (channel < 0 || channel >= channels || bank < 0 || bank >= banks) {
            throw new IndexOutOfBoundsException();
        }
        return openRow(givenIn.get(channel), bank);
    }

    int part(int address, int what) {
        if (address < 0 || address >= 1048576 || what < 0 || what > 3) {
            throw new IllegalArgumentException();
        }
        int[] parts = {
            address / 16 % channels,
            address / 16 / channels % banks,
            address / 16 / channels / banks,
            address % 16,
        };
        return parts[what];
    }

    void begin() {
        for (List<Command> history : checkedIn) {
            history.clear();
        }
    }

    int check(int channel, int at, int kind, int bank, int row) {
        boolean refresh = kind == 4;
        if (channel < 0
                || channel >= channels
                || kind < 0
                || kind > 4
                || bank < 0
                || bank >= banks
                || refresh && bank + row != 0
                || at < 0
                || row < 0
                || row > 65535) {
            throw new IllegalArgumentException();
        }
        List<Command> history = checkedIn.get(channel);
        Command x = new Command(channel, at, kind, bank, row);
        if (!history.isEmpty() && history.get(history.size() - 1).cycle() >= at) {
            return 1;
        }
        int open = openRow(history, bank);
        boolean fits = refresh ? !anyOpen(history) : kind == 0 ? open < 0 : open >= 0;
        if (!fits || x.column() && open != row) {
            return 2;
        }
        for (int w = 0; w < 9; w++) {
            if (breaks(w, history, x)) {
                return 3 + w;
            }
        }
        history.add(x);
        return 0;
    }

    int count(int what) {
        switch (what) {
            case 0:
                return cycle;
            case 1:
                return asks.size();
            case 2:
                return (int) doneAt.stream().filter(d -> d >= 0).count();
            case 3:
                return given.size();
            case 4:
            case 5:
            case 6:
            case 7:
            case 8:
                return (int) given.stream().filter(x -> x.kind() == what - 4).count();
            case 9:
                return (due[0] ? 1 : 0) + (channels == 2 && due[1] ? 1 : 0);
            case 10:
                return queues.stream().mapToInt(List::size).sum();
            case 11:
                return asks.stream()
                        .filter(a -> doneAt.get(a.number()) >= 0)
                        .mapToInt(a -> doneAt.get(a.number()) - a.came())
                        .sum();
            case 12:
                return channels;
            case 13:
                return banks;
            default:
                return -1;
        }
    }

    private static int openRow(List<Command> history, int bank) {
        for (int i = history.size() - 1; i >= 0; i--) {
            Command x = history.get(i);
            // No row outlives a REFRESH, so there is no need to look behind one.
            if (x.kind() == 4) {
                return -1;
            }
            if (x.bank() == bank && x.kind() != 4) {
                return x.kind() == 3 ? -1 : x.row();
            }
        }
        return -1;
    }

    private boolean anyOpen(List<Command> history) {
        for (int b = 0; b < banks; b++) {
            if (openRow(history, b) >= 0) {
                return true;
            }
        }
        return false;
    }

    private boolean breaks(int w, List<Command> history, Command x) {
        int activates = 0;
        for (int i = history.size() - 1; i >= 0; i--) {
            Command y = history.get(i);
            if ((long) x.cycle() - y.cycle() >= times[w]) {
                return false;
            }
            activates += y.kind() == 0 ? 1 : 0;
            boolean bank = x.bank() == y.bank();
            boolean binds =
                    switch (w) {
                        case 0 -> bank && y.kind() == 0 && x.column();
                        case 1 -> bank && y.kind() == 3 && x.kind() == 0;
                        case 2 -> bank && y.kind() == 0 && x.kind() == 3;
                        case 3 -> y.column() && x.column()
                                || bank && y.kind() == 1 && x.kind() == 3;
                        case 4 -> y.kind() == 2 && x.kind() == 1;
                        case 5 -> bank && y.kind() == 2 && x.kind() == 3;
                        case 6 -> y.kind() == 0 && x.kind() == 0;
                        case 7 -> y.kind() == 4;
                        default -> y.kind() == 0 && x.kind() == 0 && activates == 4;
                    };
            if (binds) {
                return true;
            }
        }
        return false;
    }

    private boolean may(int channel, int kind, int bank) {
        Command x = new Command(channel, cycle, kind, bank, 0);
        for (int w = 0; w < 9; w++) {
            if (breaks(w, givenIn.get(channel), x)) {
                return false;
            }
        }
        return true;
    }

    private void give(int channel, int kind, int bank, int row) {
        Command x = new Command(channel, cycle, kind, bank, row);
        given.add(x);
        givenIn.get(channel).add(x);
    }

    private void step(int c) {
        if (span != 0 && cycle % span == 0) {
            due[c] = true;
        }
        if (due[c]) {
            refresh(c);
            return;
        }
        Ask a = named(c);
        if (a == null) {
            return;
        }
        int kind = next(a);
        give(c, kind, a.bank(), kind == 3 ? open(c, a.bank()) : a.row());
        lastBank[c] = a.bank();
        if (kind == 1 || kind == 2) {
            queues.get(c).remove(a);
            doneAt.set(a.number(), cycle);
        }
    }

    private void refresh(int c) {
        if (!anyOpen(givenIn.get(c))) {
            if (may(c, 4, 0)) {
                give(c, 4, 0, 0);
                due[c] = false;
            }
            return;
        }
        for (int b = 0; b < banks; b++) {
            if (open(c, b) >= 0 && may(c, 3, b)) {
                give(c, 3, b, open(c, b));
                return;
            }
        }
    }

    private int next(Ask a) {
        int open = open(a.channel(), a.bank());
        return open < 0 ? 0 : open != a.row() ? 3 : a.write() ? 2 : 1;
    }

    private boolean ready(Ask a) {
        return may(a.channel(), next(a), a.bank());
    }

    private Ask named(int c) {
        List<Ask> queue = queues.get(c);
        if (queue.isEmpty()) {
            return null;
        }
        List<Ask> reads = queue.stream().filter(a -> !a.write()).toList();
        List<Ask> writes = queue.stream().filter(Ask::write).toList();
        switch (scheduler) {
            case 0:
                return ready(queue.get(0)) ? queue.get(0) : null;
            case 1:
                return byRows(queue);
            case 2:
                return byRows(!reads.isEmpty() && writes.size() < 5 ? reads : writes);
            default:
                for (int i = 1; i <= banks; i++) {
                    int b = (lastBank[c] + i) % banks;
                    Ask a = queue.stream().filter(x -> x.bank() == b).findFirst().orElse(null);
                    if (a != null && ready(a)) {
                        return a;
                    }
                }
                return null;
        }
    }

    private Ask byRows(List<Ask> among) {
        for (Ask a : among) {
            if (next(a) != 0 && next(a) != 3 && ready(a)) {
                return a;
            }
        }
        for (Ask a : among) {
            boolean held = next(a) == 3 && among.stream().anyMatch(o -> wantsOpenRowOf(o, a));
            if (ready(a) && !held) {
                return a;
            }
        }
        return null;
    }

    private boolean wantsOpenRowOf(Ask o, Ask a) {
        return o != a && o.bank() == a.bank() && o.row() == open(a.channel(), a.bank());
    }
}
