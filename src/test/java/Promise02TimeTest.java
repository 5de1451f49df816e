/** Promise 2: time. */
public final class Promise02TimeTest {
    public static void main(String[] args) {
        Due due = new Due();
        answersTheOneBefore(due);
        refusesATimeThatIsNotThere(due);
        refusesCyclesThatAreNotOneToHundred(due);
        refusesWhileAnAskWaits(due);
        refusesWhileARowIsOpen(due);
        throwsTheFirstOneTold(due);
        takesItWhenNoneWaitsAndNoneIsOpen(due);
        leastAndMostBindTheMemory(due);
        bindsTheMemory(due);
        refreshTimeBindsTheMemory(due);
        fourActivatesBindTheMemory(due);
        bindsWithWhatCameBefore(due);
        due.end();
    }

    private static void answersTheOneBefore(Due due) {
        BankTimes x = new BankTimes(0, 0, 0);
        for (int what = 0; what < 9; what++) {
            int w = what;
            x.time(w, 100);
            due.is("time " + w, 100, () -> x.time(w, 1));
            due.is("time " + w, 1, () -> x.time(w, 50 + w));
        }
        for (int what = 0; what < 9; what++) {
            int w = what;
            due.is("time again " + w, 50 + w, () -> x.time(w, 1));
        }
    }

    private static void timesAreTheFirstOnes(Due due, BankTimes x) {
        int[] first = {3, 3, 7, 2, 4, 5, 2, 10, 12};
        for (int what = 0; what < 9; what++) {
            int w = what;
            due.is("unchanged time " + w, first[w], () -> x.time(w, first[w]));
        }
    }

    private static void refusesATimeThatIsNotThere(Due due) {
        BankTimes x = new BankTimes(0, 0, 0);
        int[] none = {-1, 9, 10, -9, Integer.MIN_VALUE, Integer.MAX_VALUE};
        String before = Seen.of(x);
        for (int w : none) {
            due.throwing("what " + w, IndexOutOfBoundsException.class, () -> x.time(w, 5));
        }
        due.unchanged(x, before);
        timesAreTheFirstOnes(due, x);
    }

    private static void refusesCyclesThatAreNotOneToHundred(Due due) {
        BankTimes x = new BankTimes(0, 0, 0);
        int[] wrong = {0, 101, -1, 102, -100, Integer.MIN_VALUE, Integer.MAX_VALUE};
        String before = Seen.of(x);
        for (int what = 0; what < 9; what++) {
            int w = what;
            for (int c : wrong) {
                String call = "time " + w + " of " + c;
                due.throwing(call, IllegalArgumentException.class, () -> x.time(w, c));
            }
        }
        due.unchanged(x, before);
        timesAreTheFirstOnes(due, x);
    }

    /** No row is open yet: the ask alone is why. */
    private static void refusesWhileAnAskWaits(Due due) {
        for (int address = 0; address < 1 << 8; address += 1 << 4) {
            BankTimes x = new BankTimes(1, 3, 0);
            x.ask(address, address % 32 == 0);
            due.is("no row is open", 0, () -> x.count(3));
            String before = Seen.of(x);
            for (int what = 0; what < 9; what++) {
                int w = what;
                due.throwing("an ask waits", IllegalStateException.class, () -> x.time(w, 5));
            }
            due.unchanged(x, before);
        }
    }

    /** No ask waits any more: the one row alone is why, in whatever channel and bank it is. */
    private static void refusesWhileARowIsOpen(Due due) {
        for (int address = 0; address < 1 << 8; address += 1 << 4) {
            BankTimes x = new BankTimes(1, 3, 0);
            x.ask(address, false);
            x.run(4);
            due.is("none waits", 0, () -> x.count(10));
            String before = Seen.of(x);
            due.throwing("a row is open", IllegalStateException.class, () -> x.time(0, 5));
            due.unchanged(x, before);
            x.run(40);
            due.throwing("it is still open", IllegalStateException.class, () -> x.time(8, 5));
            x.span(50);
            x.run(20);
            timesAreTheFirstOnes(due, x);
        }
    }

    private static void throwsTheFirstOneTold(Due due) {
        BankTimes x = new BankTimes(0, 0, 0);
        for (int round = 0; round < 3; round++) {
            due.throwing("both are wrong", IndexOutOfBoundsException.class, () -> x.time(9, 0));
            due.throwing("both are wrong", IndexOutOfBoundsException.class, () -> x.time(-1, 101));
            due.throwing("what is wrong", IndexOutOfBoundsException.class, () -> x.time(9, 1));
            due.throwing("cycles are wrong", IllegalArgumentException.class, () -> x.time(8, 101));
            due.throwing("cycles are wrong", IllegalArgumentException.class, () -> x.time(0, 0));
            // The second round has an ask that waits, the third one a row that is open.
            if (round == 0) {
                x.ask(0, false);
            } else {
                x.run(4);
            }
            due.throwing("all is right", IllegalStateException.class, () -> x.time(8, 100));
        }
    }

    private static void takesItWhenNoneWaitsAndNoneIsOpen(Due due) {
        for (int c = 0; c < 2; c++) {
            int channel = c;
            BankTimes x = new BankTimes(1, 1, 0);
            x.ask(channel << 4, false);
            due.throwing("an ask waits", IllegalStateException.class, () -> x.time(0, 5));
            x.run(4);
            due.is("none waits", 0, () -> x.count(10));
            due.throwing("a row is open", IllegalStateException.class, () -> x.time(0, 5));
            x.span(50);
            x.run(46);
            due.is("closed", BankTimes.NONE, () -> x.open(channel, 0));
            due.is("none open", 3, () -> x.time(0, 5));
            x.check(0, 0, 0, 0, 0);
            due.is("the checker's row is not the memory's", 5, () -> x.time(0, 6));
        }
    }

    private static void leastAndMostBindTheMemory(Due due) {
        int[] edges = {1, 100};
        for (int cycles : edges) {
            BankTimes x = new BankTimes(0, 0, 0);
            for (int what = 0; what < 9; what++) {
                x.time(what, cycles);
            }
            x.ask(0, true);
            x.ask(0, false);
            x.ask(1 << 4, false);
            x.run(1000);
            // ACTIVATE, WRITE, READ, CLOSE, ACTIVATE, READ: all as soon as the last one lets them.
            int[] done = {1 + cycles, 1 + 2 * cycles, 1 + 5 * cycles};
            for (int ask = 0; ask < 3; ask++) {
                int a = ask;
                due.is("all times " + cycles + ": done " + a, done[a], () -> x.done(a));
            }
        }
    }

    /** FIRST serves a write of bank 0 row 0, a read of it, a read of row 1, a read of bank 1. */
    private static void bindsTheMemory(Due due) {
        int[][] want = {
            {31, 35, 70, 101},
            {4, 8, 43, 47},
            {4, 8, 37, 41},
            {4, 34, 70, 100},
            {4, 34, 42, 46},
            {4, 8, 40, 44},
            {4, 8, 34, 64},
        };
        for (int what = 0; what < want.length; what++) {
            int w = what;
            BankTimes x = new BankTimes(0, 1, 0);
            x.time(w, 30);
            x.ask(0, true);
            x.ask(0, false);
            x.ask(1 << 5, false);
            x.ask(1 << 4, false);
            x.run(200);
            for (int ask = 0; ask < 4; ask++) {
                int a = ask;
                due.is("time " + w + " done " + a, want[w][a], () -> x.done(a));
            }
        }
    }

    private static void refreshTimeBindsTheMemory(Due due) {
        BankTimes x = new BankTimes(0, 0, 0);
        x.time(7, 30);
        x.span(50);
        x.run(50);
        x.ask(0, false);
        x.run(40);
        due.is("REFRESH at 50, ACTIVATE at 80", 83, () -> x.done(0));
    }

    private static void fourActivatesBindTheMemory(Due due) {
        int[] cycles = {12, 50, 100};
        for (int c : cycles) {
            BankTimes x = new BankTimes(0, 3, 1);
            x.time(8, c);
            for (int bank = 0; bank < 5; bank++) {
                x.ask(bank << 4, false);
            }
            x.run(200);
            due.is("the fourth one with " + c, 10, () -> x.done(3));
            due.is("the fifth one with " + c, 1 + c + 3, () -> x.done(4));
        }
    }

    private static void bindsWithWhatCameBefore(Due due) {
        BankTimes x = new BankTimes(0, 0, 0);
        x.span(50);
        x.ask(0, false);
        x.run(51);
        due.is("refreshed", 1, () -> x.count(8));
        x.span(0);
        x.time(1, 100);
        x.ask(0, false);
        x.run(200);
        due.is("CLOSE at 50 binds", 153, () -> x.done(1));
    }
}
