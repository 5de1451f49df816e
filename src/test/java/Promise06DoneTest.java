/** Promise 6: done. */
public final class Promise06DoneTest {
    public static void main(String[] args) {
        Due due = new Due();
        BankTimes x = new BankTimes(0, 0, 0);
        int[] none = {0, -1, 1, Integer.MIN_VALUE, Integer.MAX_VALUE};
        for (int n : none) {
            due.throwing("done " + n, IndexOutOfBoundsException.class, () -> x.done(n));
        }
        x.ask(0, false);
        x.ask(3, true);
        due.is("waits", BankTimes.NONE, () -> x.done(0));
        x.run(3);
        due.is("still waits", BankTimes.NONE, () -> x.done(0));
        x.run(1);
        due.is("done at 4", 4, () -> x.done(0));
        due.is("the other waits", BankTimes.NONE, () -> x.done(1));
        x.run(1000);
        due.is("still at 4", 4, () -> x.done(0));
        due.is("done at 6", 6, () -> x.done(1));
        due.throwing("behind the last", IndexOutOfBoundsException.class, () -> x.done(2));
        due.throwing("below", IndexOutOfBoundsException.class, () -> x.done(-1));
        due.end();
    }
}
