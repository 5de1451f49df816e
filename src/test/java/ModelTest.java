import java.util.Random;

/** Long mixed runs of calls: the class and the plain model answer alike, and the checker agrees. */
public final class ModelTest {
    private static final int RUNS = 400;
    private static final int CALLS = 512;

    private interface Call {
        int answer();
    }

    private final Due due;
    private final Random random;
    private final BankTimes x;
    private final PlainModel model;
    private final String name;
    private final int rows;
    private final int patience;
    private int checkCycle;

    private ModelTest(Due due, int seed) {
        this.due = due;
        this.random = new Random(seed);
        int channels = random.nextInt(7) - 3;
        int banks = random.nextInt(9) - 4;
        int scheduler = seed % 4 - (seed % 8 < 4 ? 0 : 4);
        this.x = new BankTimes(channels, banks, scheduler);
        this.model = new PlainModel(channels, banks, scheduler);
        this.name = "new(" + channels + ", " + banks + ", " + scheduler + ") of run " + seed;
        this.rows = 1 + random.nextInt(4);
        this.patience = 1 + random.nextInt(60);
    }

    public static void main(String[] args) {
        Due due = new Due();
        for (int seed = 0; seed < RUNS; seed++) {
            ModelTest run = new ModelTest(due, seed);
            run.changeTimes();
            for (int i = 0; i < CALLS - 45; i++) {
                run.anyCall();
            }
            for (int what = -1; what <= 14; what++) {
                run.count(what);
            }
            run.commandsKeepTheRules();
        }
        due.end();
    }

    private void alike(String call, Call got, Call want) {
        long a = told(got);
        long b = told(want);
        if (a != b) {
            due.tell(name + ": " + call + " answered " + a + ", the model " + b);
        }
    }

    /** An answer as it is, an exception as a number that no answer is. */
    private static long told(Call call) {
        try {
            return call.answer();
        } catch (RuntimeException e) {
            return (1L << 40) + e.getClass().getName().hashCode();
        }
    }

    private int some(int from, int to) {
        return from + random.nextInt(to - from + 1);
    }

    private void changeTimes() {
        for (int i = some(0, 9); i > 0; i--) {
            time(some(0, 8), some(0, 3) == 0 ? some(1, 100) : some(1, 20));
        }
    }

    private void anyCall() {
        int kind = some(0, 99);
        if (kind < 35) {
            ask();
        } else if (kind < 60) {
            run(some(0, 60) == 0 ? some(-1, 1002) : some(1, patience));
        } else if (kind < 62) {
            span(some(0, 3) == 0 ? 0 : some(45, 400));
        } else if (kind < 66) {
            time(some(-1, 9), some(0, 102));
        } else if (kind < 69) {
            int k = some(-1, model.asks.size());
            alike("done " + k, () -> x.done(k), () -> model.done(k));
        } else if (kind < 73) {
            int k = some(-1, Math.min(512, model.given.size()));
            int what = some(-1, 5);
            alike("command " + k + " " + what, () -> x.command(k, what), () -> model.command(k, what));
        } else if (kind < 76) {
            int c = some(-1, model.channels);
            int b = some(-1, model.banks);
            alike("open " + c + " " + b, () -> x.open(c, b), () -> model.open(c, b));
        } else if (kind < 78) {
            int address = some(-10, 1048580);
            int what = some(-1, 4);
            alike("part", () -> x.part(address, what), () -> model.part(address, what));
        } else if (kind < 80) {
            count(some(-1, 14));
        } else {
            check();
        }
    }

    private void ask() {
        int row = some(0, rows - 1);
        int address = row * model.banks * model.channels * 16;
        address += some(0, model.banks * model.channels * 16 - 1);
        int a = some(0, 60) == 0 ? some(0, 1) * 1048577 - 1 : address;
        boolean write = some(0, 1) == 0;
        alike("ask " + a + " " + write, () -> x.ask(a, write), () -> model.ask(a, write));
    }

    private void run(int n) {
        alike("run " + n, () -> x.run(n), () -> model.run(n));
    }

    private void span(int n) {
        alike("span " + n, () -> x.span(n), () -> model.span(n));
    }

    private void time(int what, int n) {
        alike("time " + what + " " + n, () -> x.time(what, n), () -> model.time(what, n));
    }

    private void count(int what) {
        alike("count " + what, () -> x.count(what), () -> model.count(what));
    }

    private void check() {
        if (some(0, 60) == 0) {
            x.begin();
            model.begin();
        }
        checkCycle = Math.max(0, checkCycle + some(-1, 9));
        int c = some(0, 50) == 0 ? some(-1, model.channels) : some(0, model.channels - 1);
        int kind = some(0, 50) == 0 ? some(-1, 5) : some(0, 4);
        int b = some(0, 50) == 0 ? some(-1, model.banks) : some(0, model.banks - 1);
        int bank = kind == 4 && some(0, 20) != 0 ? 0 : b;
        int row = kind == 4 ? some(0, 20) / 20 : some(0, rows - 1);
        int at = checkCycle;
        alike(
                "check " + c + " " + at + " " + kind + " " + bank + " " + row,
                () -> x.check(c, at, kind, bank, row),
                () -> model.check(c, at, kind, bank, row));
    }

    /** What the memory gave must please another one's checker, which goes by the same times. */
    private void commandsKeepTheRules() {
        BankTimes quiet = new BankTimes(1, 3, random.nextInt(4));
        BankTimes judge = new BankTimes(1, 3, 0);
        for (int what = 0; what < 9; what++) {
            int cycles = some(1, 30);
            quiet.time(what, cycles);
            judge.time(what, cycles);
        }
        quiet.span(some(50, 200));
        for (int i = 0; i < 30; i++) {
            int address = some(0, 3) << 8 | some(0, 255);
            // The queue may be full: then this one is refused.
            told(() -> quiet.ask(address, some(0, 1) == 0));
            quiet.run(some(1, 20));
        }
        int given = Math.min(80, quiet.count(3));
        for (int k = 0; k < given; k++) {
            int[] parts = new int[5];
            for (int what = 0; what < 5; what++) {
                parts[what] = quiet.command(k, what);
            }
            due.is(
                    name + ": the checker on command " + k,
                    0,
                    () -> judge.check(parts[0], parts[1], parts[2], parts[3], parts[4]));
        }
    }
}
