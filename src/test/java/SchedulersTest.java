/** The four schedulers: which ask is served, told by the cycles in which asks are done. */
public final class SchedulersTest {
    /** What is due of mixed(0 .. 3). */
    static final int[][] MIXED_DONE = {
        {4, 14, 25, 29}, {4, 17, 6, 10}, {4, 19, 8, 6}, {4, 14, 25, 6},
    };

    private static final int FIRST = 0;
    private static final int ROWS = 1;
    private static final int READS = 2;
    private static final int TURNS = 3;

    public static void main(String[] args) {
        Due due = new Due();
        eachGoesItsOwnWay(due);
        firstWaitsForTheOldest(due);
        rowsPrefersAnOpenRow(due);
        rowsLeavesAWantedRowOpen(due);
        rowsLeavesAnOldersRowOpen(due);
        rowsGoesOnBehindAWantedRow(due);
        readsTurnsToWritesAtFive(due);
        readsLooksAtItsOwnAlone(due);
        turnsGoRound(due);
        turnsTakeTheOldestOfABankAlone(due);
        turnsForgetRefreshCloses(due);
        turnsOfChannelsAreApart(due);
        anEmptyQueueGetsNoCommand(due);
        noneIsReady(due);
        rowsTakesTheOldestOfSeveral(due);
        readsWithoutReadsTakesWrites(due);
        readsWithoutWritesTakesReads(due);
        readsWaitsForItsOwn(due);
        readsWantedByTheOthersAreClosed(due);
        turnsPassOverABankThatIsNotReady(due);
        turnsGoOnAfterAClose(due);
        turnsOfOneBank(due);
        due.end();
    }

    /** An address with C = 1 and B = 2. */
    private static int at(int bank, int row) {
        return row << 5 | bank << 4;
    }

    static BankTimes mixed(int scheduler) {
        BankTimes x = new BankTimes(0, 1, scheduler);
        x.ask(at(0, 0), false);
        x.ask(at(0, 1), true);
        x.ask(at(0, 0), true);
        x.ask(at(1, 0), false);
        x.run(60);
        return x;
    }

    private static void doneAre(Due due, String name, BankTimes x, int... cycles) {
        for (int ask = 0; ask < cycles.length; ask++) {
            int a = ask;
            due.is(name + ": done " + a, cycles[a], () -> x.done(a));
        }
    }

    private static void eachGoesItsOwnWay(Due due) {
        for (int s = 0; s < 4; s++) {
            doneAre(due, "mixed " + s, mixed(s), MIXED_DONE[s]);
        }
    }

    private static void firstWaitsForTheOldest(Due due) {
        BankTimes x = new BankTimes(0, 1, FIRST);
        x.ask(at(0, 0), false);
        x.ask(at(1, 0), false);
        x.run(3);
        due.is("bank 1 waits", BankTimes.NONE, () -> x.open(0, 1));
        x.run(10);
        doneAre(due, "first", x, 4, 8);
    }

    private static void rowsPrefersAnOpenRow(Due due) {
        for (int write = 0; write < 2; write++) {
            BankTimes x = new BankTimes(0, 1, ROWS);
            x.ask(at(0, 0), false);
            x.run(20);
            x.ask(at(1, 0), false);
            x.ask(at(0, 0), write == 1);
            x.run(1);
            due.is("the younger one first", 21, () -> x.done(2));
            x.run(1);
            due.is("then the older one", 0, () -> x.open(0, 1));
        }
    }

    private static void rowsLeavesAnOldersRowOpen(Due due) {
        BankTimes x = new BankTimes(0, 0, ROWS);
        x.time(4, 20);
        x.ask(0, true);
        x.run(4);
        x.ask(0, false);
        x.ask(1 << 4, false);
        x.run(60);
        doneAre(due, "older one's row", x, 4, 24, 32);
    }

    private static void rowsLeavesAWantedRowOpen(Due due) {
        BankTimes x = new BankTimes(0, 0, ROWS);
        x.time(4, 20);
        x.ask(0, true);
        x.run(4);
        x.ask(1 << 4, false);
        x.ask(0, false);
        x.run(60);
        doneAre(due, "wanted row", x, 4, 32, 24);
    }

    private static void rowsGoesOnBehindAWantedRow(Due due) {
        BankTimes x = new BankTimes(0, 1, ROWS);
        x.time(4, 20);
        x.ask(at(0, 0), true);
        x.run(9);
        x.ask(at(0, 1), false);
        x.ask(at(0, 0), false);
        x.ask(at(1, 3), true);
        x.run(1);
        due.is("the younger one is served", 3, () -> x.open(0, 1));
        x.run(60);
        doneAre(due, "behind a wanted row", x, 4, 41, 33, 13);
    }

    private static void readsTurnsToWritesAtFive(Due due) {
        for (int writes = 4; writes <= 5; writes++) {
            BankTimes x = new BankTimes(0, 1, READS);
            for (int i = 0; i < writes; i++) {
                x.ask(at(0, 0), true);
            }
            x.ask(at(1, 0), false);
            x.run(1);
            int w = writes;
            due.is(w + " writes", w == 5 ? 0 : 1, () -> x.command(0, 3));
            x.run(3);
            due.is(w + " writes: open 0", w == 5 ? 0 : BankTimes.NONE, () -> x.open(0, 0));
            due.is(w + " writes: open 1", w == 5 ? BankTimes.NONE : 0, () -> x.open(0, 1));
        }
    }

    private static void readsLooksAtItsOwnAlone(Due due) {
        BankTimes x = new BankTimes(0, 0, READS);
        x.ask(0, false);
        x.run(20);
        x.ask(0, false);
        for (int i = 0; i < 5; i++) {
            x.ask(1 << 4, true);
        }
        x.run(1);
        due.is("a read's row is closed for writes", 3, () -> x.command(2, 2));
        due.is("closed at once", 21, () -> x.command(2, 1));
        // The fifth write leaves at 27, then four wait and the read has its turn: its row is closed.
        x.run(6);
        doneAre(due, "own alone", x, 4, BankTimes.NONE, 27);
        x.run(5);
        due.is("closed for the read", 3, () -> x.command(5, 2));
        due.is("closed for the read at", 32, () -> x.command(5, 1));
    }

    private static void turnsGoRound(Due due) {
        BankTimes x = new BankTimes(0, 2, TURNS);
        x.time(6, 1);
        for (int bank = 3; bank >= 0; bank--) {
            x.ask(bank << 4, false);
        }
        x.run(4);
        for (int k = 0; k < 4; k++) {
            int b = k;
            due.is("turn " + b, b, () -> x.command(b, 3));
            due.is("turn's cycle " + b, b + 1, () -> x.command(b, 1));
        }
        x.run(20);
        // The last turn was bank 3's; so bank 0 comes, and each two cycles the next one.
        doneAre(due, "turns", x, 11, 9, 7, 5);
    }

    private static void turnsTakeTheOldestOfABankAlone(Due due) {
        BankTimes x = new BankTimes(0, 0, TURNS);
        x.ask(0, false);
        x.run(4);
        x.ask(1 << 4, false);
        x.ask(0, false);
        x.run(40);
        doneAre(due, "oldest of a bank", x, 4, 14, 24);
    }

    private static void turnsForgetRefreshCloses(Due due) {
        BankTimes x = new BankTimes(0, 2, TURNS);
        x.span(50);
        x.ask(3 << 4, false);
        x.run(10);
        x.ask(1 << 4, false);
        x.run(39);
        // Refresh closes banks 1 and 3 (last), but the last ask's command went to bank 1.
        x.ask(0, false);
        x.ask(2 << 4, false);
        x.run(14);
        due.is("commands", 8, () -> x.count(3));
        due.is("refreshed", 52, () -> x.command(6, 1));
        due.is("bank behind the last ask's", 2, () -> x.command(7, 3));
    }

    private static void turnsOfChannelsAreApart(Due due) {
        BankTimes x = new BankTimes(1, 1, TURNS);
        x.ask(1 << 4, false);
        x.run(10);
        x.ask(0, false);
        x.ask(1 << 5, false);
        x.run(1);
        due.is("channel 0 begins with bank 0", 0, () -> x.command(2, 3));
        due.is("in channel 0", 0, () -> x.command(2, 0));
    }

    private static void anEmptyQueueGetsNoCommand(Due due) {
        for (int scheduler = 0; scheduler < 4; scheduler++) {
            BankTimes x = new BankTimes(1, 3, scheduler);
            due.is("nothing", 0, () -> x.run(100));
            x.ask(0, false);
            due.is("one", 1, () -> x.run(100));
            due.is("ACTIVATE and READ", 2, () -> x.count(3));
            due.is("nothing again", 0, () -> x.run(100));
            due.is("no more", 2, () -> x.count(3));
        }
    }

    /** In the cycles between ACTIVATE and READ none of all may have its next command. */
    private static void noneIsReady(Due due) {
        for (int scheduler = 0; scheduler < 4; scheduler++) {
            BankTimes x = new BankTimes(0, 1, scheduler);
            x.time(0, 50);
            x.time(2, 100);
            x.time(6, 60);
            x.ask(at(0, 0), false);
            x.ask(at(0, 0), false);
            x.ask(at(0, 1), false);
            x.ask(at(1, 0), false);
            x.run(50);
            due.is("scheduler " + scheduler, 1, () -> x.count(3));
            x.run(1);
            due.is("READ at 51", 51, () -> x.done(0));
        }
    }

    private static void rowsTakesTheOldestOfSeveral(Due due) {
        BankTimes x = new BankTimes(0, 2, ROWS);
        for (int bank = 3; bank >= 0; bank--) {
            x.ask(bank << 4, false);
        }
        x.run(40);
        for (int bank = 0; bank < 4; bank++) {
            x.ask(bank << 4, false);
        }
        x.run(40);
        // ACTIVATES at 1, 3, 5, 7, READS at 4, 6, 8, 10; then all rows are open: the oldest first.
        doneAre(due, "the oldest", x, 4, 6, 8, 10, 41, 43, 45, 47);
        BankTimes y = new BankTimes(0, 2, ROWS);
        y.ask(0, false);
        y.ask(1 << 4, false);
        y.run(40);
        y.ask(1 << 6 | 1 << 4, false);
        y.ask(1 << 6, false);
        y.run(1);
        due.is("the oldest CLOSE", 1, () -> y.command(4, 3));
    }

    private static void readsWithoutReadsTakesWrites(Due due) {
        for (int writes = 1; writes <= 8; writes++) {
            BankTimes x = new BankTimes(0, 0, READS);
            for (int i = 0; i < writes; i++) {
                x.ask(0, true);
            }
            x.run(4 + 2 * (writes - 1));
            for (int i = 0; i < writes; i++) {
                int a = i;
                due.is("write " + a, 4 + 2 * a, () -> x.done(a));
            }
        }
    }

    private static void readsWithoutWritesTakesReads(Due due) {
        for (int reads = 1; reads <= 8; reads++) {
            BankTimes x = new BankTimes(0, 0, READS);
            for (int i = 0; i < reads; i++) {
                x.ask(0, false);
            }
            int n = reads;
            due.is("reads", n, () -> x.run(4 + 2 * (n - 1)));
        }
    }

    /** The others are ready, but are not looked at while it is not their turn. */
    private static void readsWaitsForItsOwn(Due due) {
        BankTimes x = new BankTimes(0, 1, READS);
        x.time(6, 100);
        x.ask(at(0, 0), true);
        x.run(10);
        x.ask(at(0, 0), true);
        x.ask(at(1, 0), false);
        x.run(90);
        due.is("the write waits for the read", 2, () -> x.count(3));
        x.run(5);
        doneAre(due, "reads first", x, 4, BankTimes.NONE, 104);
        x.run(10);
        due.is("then the write", 106, () -> x.done(1));

        BankTimes y = new BankTimes(0, 1, READS);
        y.time(6, 100);
        y.ask(at(0, 0), false);
        y.run(10);
        y.ask(at(0, 0), false);
        for (int i = 0; i < 5; i++) {
            y.ask(at(1, 0), true);
        }
        y.run(90);
        due.is("the read waits for the writes", 2, () -> y.count(3));
        y.run(10);
        due.is("the first write", 104, () -> y.done(2));
        due.is("four writes are fewer than 5", 108, () -> y.done(1));
    }

    /** A row that writes alone want is closed for a read, when it is the reads' turn. */
    private static void readsWantedByTheOthersAreClosed(Due due) {
        BankTimes x = new BankTimes(0, 0, READS);
        x.ask(0, false);
        x.run(20);
        x.ask(1 << 4, false);
        for (int i = 0; i < 4; i++) {
            x.ask(0, true);
        }
        x.run(1);
        due.is("CLOSE", 3, () -> x.command(2, 2));
        due.is("at once", 21, () -> x.command(2, 1));
        BankTimes y = new BankTimes(0, 0, READS);
        y.time(3, 5);
        y.ask(0, false);
        y.run(7);
        y.ask(1 << 4, false);
        y.ask(0, false);
        y.run(30);
        doneAre(due, "a read wants it", y, 4, 20, 9);
    }

    private static void turnsPassOverABankThatIsNotReady(Due due) {
        BankTimes x = new BankTimes(0, 2, TURNS);
        x.ask(3 << 4, false);
        x.run(1);
        // Bank 0 comes behind bank 3, but its ACTIVATE may not be before 3; none else is ready at 2.
        x.ask(0, false);
        x.run(1);
        due.is("none at 2", 1, () -> x.count(3));
        x.run(2);
        due.is("bank 0 at 3", 0, () -> x.command(1, 3));
        due.is("bank 0 at 3", 3, () -> x.command(1, 1));
        due.is("bank 3 at 4, bank 0 is not ready", 4, () -> x.done(0));
    }

    /** A CLOSE for an ask is an ask's command too: the next bank has the next turn. */
    private static void turnsGoOnAfterAClose(Due due) {
        BankTimes x = new BankTimes(0, 1, TURNS);
        x.ask(at(0, 0), false);
        x.ask(at(1, 0), false);
        x.run(40);
        due.is("bank 1 was last", 1, () -> x.command(3, 3));
        x.ask(at(0, 1), false);
        x.ask(at(0, 0), false);
        x.ask(at(1, 0), false);
        x.ask(at(1, 0), false);
        x.run(4);
        due.is("CLOSE of bank 0", 3, () -> x.command(4, 2));
        due.is("READ of bank 1", 1, () -> x.command(5, 2));
        due.is("at 42", 42, () -> x.command(5, 1));
        due.is("ACTIVATE of bank 0", 0, () -> x.command(6, 2));
        due.is("at 44", 44, () -> x.command(6, 1));
    }

    private static void turnsOfOneBank(Due due) {
        BankTimes x = new BankTimes(0, 0, TURNS);
        x.ask(0, false);
        x.ask(0, true);
        x.ask(0, true);
        x.run(20);
        doneAre(due, "one bank", x, 4, 6, 8);
    }
}
