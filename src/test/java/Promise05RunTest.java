/** Promise 5: run. */
public final class Promise05RunTest {
    public static void main(String[] args) {
        Due due = new Due();
        answersHowManyWereDone(due);
        takesOneAndThousand(due);
        refusesOthers(due);
        beginsWithCycleOne(due);
        countsTheLastCycleToo(due);
        oneByOneIsAllAtOnce(due);
        due.end();
    }

    private static void answersHowManyWereDone(Due due) {
        BankTimes x = new BankTimes(1, 1, 0);
        x.ask(0, false);
        x.ask(16, true);
        x.ask(1, true);
        due.is("none yet", 0, () -> x.run(3));
        due.is("both channels", 2, () -> x.run(1));
        due.is("the third", 1, () -> x.run(1000));
        due.is("no more", 0, () -> x.run(1000));
        due.is("cycles", 2004, () -> x.count(0));
    }

    private static void refusesOthers(Due due) {
        int[] wrong = {0, -1, 1001, 1002, -1000, Integer.MIN_VALUE, Integer.MAX_VALUE};
        for (int scheduler = 0; scheduler < 4; scheduler++) {
            BankTimes fresh = new BankTimes(1, 2, scheduler);
            BankTimes busy = filled(scheduler);
            busy.run(10);
            String freshBefore = Seen.of(fresh);
            String busyBefore = Seen.of(busy);
            for (int w : wrong) {
                due.throwing("run " + w, IllegalArgumentException.class, () -> fresh.run(w));
                due.throwing("busy " + w, IllegalArgumentException.class, () -> busy.run(w));
            }
            due.unchanged(fresh, freshBefore);
            due.unchanged(busy, busyBefore);
        }
    }

    private static void takesOneAndThousand(Due due) {
        BankTimes x = new BankTimes(0, 0, 0);
        due.is("one", 0, () -> x.run(1));
        due.is("cycle", 1, () -> x.count(0));
        due.is("thousand", 0, () -> x.run(1000));
        due.is("cycles", 1001, () -> x.count(0));
    }

    private static void beginsWithCycleOne(Due due) {
        BankTimes x = new BankTimes(1, 0, 0);
        x.ask(0, false);
        x.ask(16, false);
        due.is("none in cycle 0", 0, () -> x.count(3));
        x.run(1);
        due.is("channel 0 at 1", 1, () -> x.command(0, 1));
        due.is("channel 1 at 1", 1, () -> x.command(1, 1));
    }

    private static void countsTheLastCycleToo(Due due) {
        BankTimes x = new BankTimes(0, 0, 0);
        x.ask(0, false);
        due.is("READ at 4, the last cycle", 1, () -> x.run(4));
        BankTimes y = new BankTimes(0, 0, 0);
        y.run(996);
        y.ask(0, false);
        due.is("one too few", 0, () -> y.run(3));
        due.is("READ at 1000", 1, () -> y.run(1));
        due.is("done", 1000, () -> y.done(0));
    }

    private static void oneByOneIsAllAtOnce(Due due) {
        for (int scheduler = 0; scheduler < 4; scheduler++) {
            BankTimes slow = filled(scheduler);
            BankTimes fast = filled(scheduler);
            int done = 0;
            for (int i = 0; i < 200; i++) {
                done += slow.run(1);
            }
            int sum = done;
            due.is("done", sum, () -> fast.run(200));
            for (int what = 0; what < 14; what++) {
                int w = what;
                due.is("count " + w, slow.count(w), () -> fast.count(w));
            }
        }
    }

    private static BankTimes filled(int scheduler) {
        BankTimes x = new BankTimes(1, 2, scheduler);
        x.span(50);
        for (int i = 0; i < 16; i++) {
            x.ask((i * 5 & 127) << 4 | i & 15, i % 3 == 0);
        }
        return x;
    }
}
