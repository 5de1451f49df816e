/** Promise 4: ask. */
public final class Promise04AskTest {
    public static void main(String[] args) {
        Due due = new Due();
        numbersFromZeroOn(due);
        refusesWrongAddresses(due);
        refusesTheNinth(due);
        queuesOfChannelsAreApart(due);
        comesWithTheCycleThatIsNow(due);
        due.end();
    }

    private static void numbersFromZeroOn(Due due) {
        BankTimes x = new BankTimes(0, 3, 0);
        for (int i = 0; i < 40; i++) {
            int number = i;
            due.is("ask " + number, number, () -> x.ask(number * 1031, number % 3 == 0));
            x.run(100);
        }
    }

    private static void refusesWrongAddresses(Due due) {
        BankTimes x = new BankTimes(0, 0, 0);
        int[] wrong = {-1, 1048576, Integer.MIN_VALUE, Integer.MAX_VALUE};
        for (int round = 0; round < 2; round++) {
            for (int w : wrong) {
                due.throwing("ask " + w, IllegalArgumentException.class, () -> x.ask(w, true));
            }
            for (int i = 0; round == 0 && i < 8; i++) {
                x.ask(1048575 * (i & 1), false);
            }
        }
        due.is("eight came", 8, () -> x.count(1));
    }

    private static void refusesTheNinth(Due due) {
        BankTimes x = new BankTimes(0, 1, 1);
        for (int i = 0; i < 8; i++) {
            x.ask(i << 4, (i & 1) == 0);
        }
        due.throwing("ninth", UnsupportedOperationException.class, () -> x.ask(0, false));
        due.throwing("ninth write", UnsupportedOperationException.class, () -> x.ask(16, true));
        x.run(3);
        due.throwing("none done yet", UnsupportedOperationException.class, () -> x.ask(0, false));
        x.run(1);
        due.is("one has left", 8, () -> x.ask(0, false));
        due.throwing("full again", UnsupportedOperationException.class, () -> x.ask(0, false));
        due.is("nine came", 9, () -> x.count(1));
    }

    private static void queuesOfChannelsAreApart(Due due) {
        BankTimes x = new BankTimes(1, 0, 0);
        for (int i = 0; i < 8; i++) {
            x.ask(16, false);
        }
        due.throwing("channel 1", UnsupportedOperationException.class, () -> x.ask(31, false));
        due.is("channel 0", 8, () -> x.ask(15, false));
        due.is("channel 0 again", 9, () -> x.ask(32, false));
    }

    private static void comesWithTheCycleThatIsNow(Due due) {
        BankTimes x = new BankTimes(0, 0, 0);
        x.run(10);
        x.ask(0, false);
        x.run(20);
        due.is("done", 14, () -> x.done(0));
        due.is("waited", 4, () -> x.count(11));
    }
}
