/** Promise 6: done. */
public final class Promise06DoneTest {
    public static void main(String[] args) {
        Due due = new Due();
        noAskIsThereAtFirst(due);
        tellsTheCycleOrNone(due);
        refusesWhatIsNotThere(due);
        aRefusedAskIsNotThere(due);
        keepsAllOfALongRun(due);
        due.end();
    }

    private static void noAskIsThereAtFirst(Due due) {
        BankTimes x = new BankTimes(0, 0, 0);
        int[] none = {0, -1, 1, 511, 512, Integer.MIN_VALUE, Integer.MAX_VALUE};
        for (int n : none) {
            due.throwing("done " + n, IndexOutOfBoundsException.class, () -> x.done(n));
        }
    }

    private static void tellsTheCycleOrNone(Due due) {
        BankTimes x = new BankTimes(0, 0, 0);
        x.ask(0, false);
        x.ask(3, true);
        due.is("waits", BankTimes.NONE, () -> x.done(0));
        x.run(3);
        due.is("still waits", BankTimes.NONE, () -> x.done(0));
        x.run(1);
        due.is("done at 4", 4, () -> x.done(0));
        due.is("the other waits", BankTimes.NONE, () -> x.done(1));
        x.run(1000);
        due.is("still at 4", 4, () -> x.done(0));
        due.is("done at 6", 6, () -> x.done(1));
    }

    private static void refusesWhatIsNotThere(Due due) {
        BankTimes x = new BankTimes(1, 1, 0);
        for (int asks = 1; asks <= 16; asks++) {
            int behind = asks;
            x.ask(asks << 4, false);
            due.is("the last one waits", BankTimes.NONE, () -> x.done(behind - 1));
            due.throwing("behind", IndexOutOfBoundsException.class, () -> x.done(behind));
            due.throwing("below", IndexOutOfBoundsException.class, () -> x.done(-1));
        }
        x.run(1000);
        due.throwing("behind, all done", IndexOutOfBoundsException.class, () -> x.done(16));
    }

    private static void aRefusedAskIsNotThere(Due due) {
        BankTimes x = new BankTimes(0, 0, 0);
        due.throwing("address", IllegalArgumentException.class, () -> x.ask(-1, false));
        due.throwing("none came", IndexOutOfBoundsException.class, () -> x.done(0));
        for (int i = 0; i < 8; i++) {
            x.ask(0, false);
        }
        due.throwing("full", UnsupportedOperationException.class, () -> x.ask(0, false));
        due.is("the eighth", BankTimes.NONE, () -> x.done(7));
        due.throwing("no ninth", IndexOutOfBoundsException.class, () -> x.done(8));
    }

    private static void keepsAllOfALongRun(Due due) {
        BankTimes x = new BankTimes(0, 0, 0);
        for (int i = 0; i < 250; i++) {
            x.ask(0, false);
            x.run(10);
        }
        // The row stays open, so each one but the first is read in the cycle behind its coming.
        due.is("the first", 4, () -> x.done(0));
        due.is("the second", 11, () -> x.done(1));
        due.is("one in the middle", 1281, () -> x.done(128));
        due.is("the last", 2491, () -> x.done(249));
        due.throwing("behind the last", IndexOutOfBoundsException.class, () -> x.done(250));
    }
}
