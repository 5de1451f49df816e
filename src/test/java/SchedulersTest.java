/** The four schedulers: which ask is served, told by the cycles in which asks are done. */
public final class SchedulersTest {
    /** What is due of mixed(0 .. 3). */
    static final int[][] MIXED_DONE = {
        {4, 14, 25, 29}, {4, 17, 6, 10}, {4, 19, 8, 6}, {4, 14, 25, 6},
    };

    private static final int FIRST = 0;
    private static final int ROWS = 1;
    private static final int READS = 2;
    private static final int TURNS = 3;

    public static void main(String[] args) {
        Due due = new Due();
        eachGoesItsOwnWay(due);
        firstWaitsForTheOldest(due);
        rowsPrefersAnOpenRow(due);
        rowsLeavesAWantedRowOpen(due);
        rowsLeavesAnOldersRowOpen(due);
        rowsGoesOnBehindAWantedRow(due);
        readsTurnsToWritesAtFive(due);
        readsLooksAtItsOwnAlone(due);
        turnsGoRound(due);
        turnsTakeTheOldestOfABankAlone(due);
        turnsForgetRefreshCloses(due);
        turnsOfChannelsAreApart(due);
        due.end();
    }

    /** An address with C = 1 and B = 2. */
    private static int at(int bank, int row) {
        return row << 5 | bank << 4;
    }

    static BankTimes mixed(int scheduler) {
        BankTimes x = new BankTimes(0, 1, scheduler);
        x.ask(at(0, 0), false);
        x.ask(at(0, 1), true);
        x.ask(at(0, 0), true);
        x.ask(at(1, 0), false);
        x.run(60);
        return x;
    }

    private static void doneAre(Due due, String name, BankTimes x, int... cycles) {
        for (int ask = 0; ask < cycles.length; ask++) {
            int a = ask;
            due.is(name + ": done " + a, cycles[a], () -> x.done(a));
        }
    }

    private static void eachGoesItsOwnWay(Due due) {
        for (int s = 0; s < 4; s++) {
            doneAre(due, "mixed " + s, mixed(s), MIXED_DONE[s]);
        }
    }

    private static void firstWaitsForTheOldest(Due due) {
        BankTimes x = new BankTimes(0, 1, FIRST);
        x.ask(at(0, 0), false);
        x.ask(at(1, 0), false);
        x.run(3);
        due.is("bank 1 waits", BankTimes.NONE, () -> x.open(0, 1));
        x.run(10);
        doneAre(due, "first", x, 4, 8);
    }

    private static void rowsPrefersAnOpenRow(Due due) {
        for (int write = 0; write < 2; write++) {
            BankTimes x = new BankTimes(0, 1, ROWS);
            x.ask(at(0, 0), false);
            x.run(20);
            x.ask(at(1, 0), false);
            x.ask(at(0, 0), write == 1);
            x.run(1);
            due.is("the younger one first", 21, () -> x.done(2));
            x.run(1);
            due.is("then the older one", 0, () -> x.open(0, 1));
        }
    }

    private static void rowsLeavesAnOldersRowOpen(Due due) {
        BankTimes x = new BankTimes(0, 0, ROWS);
        x.time(4, 20);
        x.ask(0, true);
        x.run(4);
        x.ask(0, false);
        x.ask(1 << 4, false);
        x.run(60);
        doneAre(due, "older one's row", x, 4, 24, 32);
    }

    private static void rowsLeavesAWantedRowOpen(Due due) {
        BankTimes x = new BankTimes(0, 0, ROWS);
        x.time(4, 20);
        x.ask(0, true);
        x.run(4);
        x.ask(1 << 4, false);
        x.ask(0, false);
        x.run(60);
        doneAre(due, "wanted row", x, 4, 32, 24);
    }

    private static void rowsGoesOnBehindAWantedRow(Due due) {
        BankTimes x = new BankTimes(0, 1, ROWS);
        x.time(4, 20);
        x.ask(at(0, 0), true);
        x.run(9);
        x.ask(at(0, 1), false);
        x.ask(at(0, 0), false);
        x.ask(at(1, 3), true);
        x.run(1);
        due.is("the younger one is served", 3, () -> x.open(0, 1));
        x.run(60);
        doneAre(due, "behind a wanted row", x, 4, 41, 33, 13);
    }

    private static void readsTurnsToWritesAtFive(Due due) {
        for (int writes = 4; writes <= 5; writes++) {
            BankTimes x = new BankTimes(0, 1, READS);
            for (int i = 0; i < writes; i++) {
                x.ask(at(0, 0), true);
            }
            x.ask(at(1, 0), false);
            x.run(1);
            int w = writes;
            due.is(w + " writes", w == 5 ? 0 : 1, () -> x.command(0, 3));
            x.run(3);
            due.is(w + " writes: open 0", w == 5 ? 0 : BankTimes.NONE, () -> x.open(0, 0));
            due.is(w + " writes: open 1", w == 5 ? BankTimes.NONE : 0, () -> x.open(0, 1));
        }
    }

    private static void readsLooksAtItsOwnAlone(Due due) {
        BankTimes x = new BankTimes(0, 0, READS);
        x.ask(0, false);
        x.run(20);
        x.ask(0, false);
        for (int i = 0; i < 5; i++) {
            x.ask(1 << 4, true);
        }
        x.run(1);
        due.is("a read's row is closed for writes", 3, () -> x.command(2, 2));
        due.is("closed at once", 21, () -> x.command(2, 1));
        // The fifth write leaves at 27, then four wait and the read has its turn: its row is closed.
        x.run(6);
        doneAre(due, "own alone", x, 4, BankTimes.NONE, 27);
        x.run(5);
        due.is("closed for the read", 3, () -> x.command(5, 2));
        due.is("closed for the read at", 32, () -> x.command(5, 1));
    }

    private static void turnsGoRound(Due due) {
        BankTimes x = new BankTimes(0, 2, TURNS);
        x.time(6, 1);
        for (int bank = 3; bank >= 0; bank--) {
            x.ask(bank << 4, false);
        }
        x.run(4);
        for (int k = 0; k < 4; k++) {
            int b = k;
            due.is("turn " + b, b, () -> x.command(b, 3));
            due.is("turn's cycle " + b, b + 1, () -> x.command(b, 1));
        }
        x.run(20);
        // The last turn was bank 3's; so bank 0 comes, and each two cycles the next one.
        doneAre(due, "turns", x, 11, 9, 7, 5);
    }

    private static void turnsTakeTheOldestOfABankAlone(Due due) {
        BankTimes x = new BankTimes(0, 0, TURNS);
        x.ask(0, false);
        x.run(4);
        x.ask(1 << 4, false);
        x.ask(0, false);
        x.run(40);
        doneAre(due, "oldest of a bank", x, 4, 14, 24);
    }

    private static void turnsForgetRefreshCloses(Due due) {
        BankTimes x = new BankTimes(0, 2, TURNS);
        x.span(50);
        x.ask(3 << 4, false);
        x.run(10);
        x.ask(1 << 4, false);
        x.run(39);
        // Refresh closes banks 1 and 3 (last), but the last ask's command went to bank 1.
        x.ask(0, false);
        x.ask(2 << 4, false);
        x.run(14);
        due.is("commands", 8, () -> x.count(3));
        due.is("refreshed", 52, () -> x.command(6, 1));
        due.is("bank behind the last ask's", 2, () -> x.command(7, 3));
    }

    private static void turnsOfChannelsAreApart(Due due) {
        BankTimes x = new BankTimes(1, 1, TURNS);
        x.ask(1 << 4, false);
        x.run(10);
        x.ask(0, false);
        x.ask(1 << 5, false);
        x.run(1);
        due.is("channel 0 begins with bank 0", 0, () -> x.command(2, 3));
        due.is("in channel 0", 0, () -> x.command(2, 0));
    }
}
