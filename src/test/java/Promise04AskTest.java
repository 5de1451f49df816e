/** Promise 4: ask. */
public final class Promise04AskTest {
    private static final int[] WRONG = {
        -1, 1048576, -2, 1048577, 1 << 21, Integer.MIN_VALUE, Integer.MAX_VALUE,
    };

    public static void main(String[] args) {
        Due due = new Due();
        numbersFromZeroOn(due);
        takesTheFirstAndTheLastAddress(due);
        refusesWrongAddresses(due);
        throwsTheFirstOneTold(due);
        refusesTheNinth(due);
        readsAndWritesAlikeFillTheQueue(due);
        refusesTheNinthWhileARefreshIsDue(due);
        queuesOfChannelsAreApart(due);
        comesWithTheCycleThatIsNow(due);
        due.end();
    }

    private static void numbersFromZeroOn(Due due) {
        BankTimes x = new BankTimes(0, 3, 0);
        for (int i = 0; i < 40; i++) {
            int number = i;
            due.is("ask " + number, number, () -> x.ask(number * 1031, number % 3 == 0));
            x.run(100);
        }
    }

    private static void takesTheFirstAndTheLastAddress(Due due) {
        for (int shape = 0; shape < 8; shape++) {
            int bits = (shape & 1) + (shape >> 1);
            BankTimes x = new BankTimes(shape & 1, shape >> 1, 0);
            due.is("first", 0, () -> x.ask(0, false));
            x.run(100);
            due.is("its row", 0, () -> x.command(0, 4));
            due.is("last", 1, () -> x.ask(1048575, true));
            x.run(100);
            int newest = x.count(3) - 1;
            due.is("last one's channel", x.count(12) - 1, () -> x.command(newest, 0));
            due.is("last one's bank", x.count(13) - 1, () -> x.command(newest, 3));
            due.is("last one's row", 65535 >> bits, () -> x.command(newest, 4));
        }
    }

    private static void refusesWrongAddresses(Due due) {
        for (int shape = 0; shape < 8; shape++) {
            BankTimes x = new BankTimes(shape & 1, shape >> 1, 0);
            String before = Seen.of(x);
            for (int w : WRONG) {
                due.throwing("read " + w, IllegalArgumentException.class, () -> x.ask(w, false));
                due.throwing("write " + w, IllegalArgumentException.class, () -> x.ask(w, true));
            }
            due.unchanged(x, before);
            due.is("no number is used", 0, () -> x.ask(5, false));
        }
    }

    private static void throwsTheFirstOneTold(Due due) {
        BankTimes x = new BankTimes(0, 0, 0);
        for (int i = 0; i < 8; i++) {
            x.ask(1048575 * (i & 1), false);
        }
        String before = Seen.of(x);
        for (int w : WRONG) {
            due.throwing("full, and " + w, IllegalArgumentException.class, () -> x.ask(w, true));
        }
        due.throwing("full", UnsupportedOperationException.class, () -> x.ask(0, true));
        due.unchanged(x, before);
    }

    private static void refusesTheNinth(Due due) {
        BankTimes x = new BankTimes(0, 1, 1);
        for (int i = 0; i < 8; i++) {
            x.ask(i << 4, (i & 1) == 0);
        }
        String before = Seen.of(x);
        due.throwing("ninth", UnsupportedOperationException.class, () -> x.ask(0, false));
        due.throwing("ninth write", UnsupportedOperationException.class, () -> x.ask(16, true));
        due.unchanged(x, before);
        x.run(3);
        due.throwing("none done yet", UnsupportedOperationException.class, () -> x.ask(0, false));
        x.run(1);
        due.is("one has left", 8, () -> x.ask(0, false));
        due.throwing("full again", UnsupportedOperationException.class, () -> x.ask(0, false));
        due.is("nine came", 9, () -> x.count(1));
    }

    private static void readsAndWritesAlikeFillTheQueue(Due due) {
        for (int writes = 0; writes <= 8; writes++) {
            BankTimes x = new BankTimes(1, 2, 2);
            for (int i = 0; i < 8; i++) {
                int number = i;
                boolean write = i < writes;
                due.is("ask " + number, number, () -> x.ask(number << 5, write));
            }
            due.throwing("read", UnsupportedOperationException.class, () -> x.ask(0, false));
            due.throwing("write", UnsupportedOperationException.class, () -> x.ask(0, true));
        }
    }

    private static void refusesTheNinthWhileARefreshIsDue(Due due) {
        BankTimes x = new BankTimes(0, 0, 1);
        x.span(50);
        x.run(50);
        for (int i = 0; i < 8; i++) {
            x.ask(0, false);
        }
        x.run(12);
        due.throwing("none left yet", UnsupportedOperationException.class, () -> x.ask(0, false));
        x.run(1);
        due.is("the first one was read at 63", 63, () -> x.done(0));
        due.is("so there is room", 8, () -> x.ask(0, false));
    }

    private static void queuesOfChannelsAreApart(Due due) {
        BankTimes x = new BankTimes(1, 0, 0);
        for (int i = 0; i < 8; i++) {
            x.ask(16, false);
        }
        due.throwing("channel 1", UnsupportedOperationException.class, () -> x.ask(31, false));
        for (int i = 8; i < 16; i++) {
            int number = i;
            due.is("channel 0", number, () -> x.ask(ofChannelZero(number), false));
        }
        due.throwing("channel 0", UnsupportedOperationException.class, () -> x.ask(15, false));
        due.is("sixteen wait", 16, () -> x.count(10));
    }

    /** Addresses of channel 0 alone, when there are two. */
    private static int ofChannelZero(int number) {
        return number << 5 | number & 15;
    }

    private static void comesWithTheCycleThatIsNow(Due due) {
        BankTimes x = new BankTimes(0, 0, 0);
        x.run(10);
        x.ask(0, false);
        x.run(20);
        due.is("done", 14, () -> x.done(0));
        due.is("waited", 4, () -> x.count(11));
    }
}
