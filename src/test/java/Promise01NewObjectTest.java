/** Promise 1: A new object. */
public final class Promise01NewObjectTest {
    private static final int[] FIRST_TIMES = {3, 3, 7, 2, 4, 5, 2, 10, 12};

    public static void main(String[] args) {
        Due due = new Due();
        sizesAreRestsNotBelowZero(due);
        restsGoRound(due);
        schedulersAreRestsNotBelowZero(due);
        nothingIsThereYet(due);
        thereIsNoSpan(due);
        objectsAreApart(due);
        due.end();
    }

    private static void sizesAreRestsNotBelowZero(Due due) {
        int[] given = {0, 1, 2, 3, 4, 7, -1, -2, -3, -4, Integer.MIN_VALUE, Integer.MAX_VALUE};
        int[] channels = {1, 2, 1, 2, 1, 2, 2, 1, 2, 1, 1, 2};
        int[] banks = {1, 2, 4, 8, 1, 8, 8, 4, 2, 1, 1, 8};
        for (int i = 0; i < given.length; i++) {
            int g = given[i];
            due.is("C of " + g, channels[i], () -> new BankTimes(g, 0, 0).count(12));
            due.is("B of " + g, banks[i], () -> new BankTimes(0, g, 0).count(13));
        }
    }

    private static void restsGoRound(Due due) {
        int channels = 1;
        int banks = 1;
        for (int given = -40; given <= 40; given++) {
            int g = given;
            int c = channels;
            int b = banks;
            due.is("C of " + g, c, () -> new BankTimes(g, g, g).count(12));
            due.is("B of " + g, b, () -> new BankTimes(g, g, g).count(13));
            channels = 3 - channels;
            banks = banks == 8 ? 1 : 2 * banks;
        }
    }

    private static void schedulersAreRestsNotBelowZero(Due due) {
        int[] given = {0, 1, 2, 3, 4, 5, 6, 7, -4, -3, -2, -1, Integer.MIN_VALUE, Integer.MAX_VALUE};
        for (int g : given) {
            BankTimes x = SchedulersTest.mixed(g);
            int[] want = SchedulersTest.MIXED_DONE[g & 3];
            for (int ask = 0; ask < want.length; ask++) {
                int a = ask;
                due.is("scheduler " + g + " done " + a, want[a], () -> x.done(a));
            }
        }
    }

    private static void nothingIsThereYet(Due due) {
        BankTimes x = new BankTimes(1, 3, 0);
        for (int what = 0; what <= 11; what++) {
            int w = what;
            due.is("count " + w, 0, () -> x.count(w));
        }
        for (int bank = 0; bank < 8; bank++) {
            int b = bank;
            due.is("open 0 " + b, BankTimes.NONE, () -> x.open(0, b));
            due.is("open 1 " + b, BankTimes.NONE, () -> x.open(1, b));
        }
        due.throwing("command", IndexOutOfBoundsException.class, () -> x.command(0, 0));
        due.throwing("done", IndexOutOfBoundsException.class, () -> x.done(0));
        due.is("span", 0, () -> x.span(0));
        for (int what = 0; what < FIRST_TIMES.length; what++) {
            int w = what;
            due.is("time " + w, FIRST_TIMES[w], () -> x.time(w, 1));
        }
    }

    private static void thereIsNoSpan(Due due) {
        BankTimes x = new BankTimes(1, 3, 0);
        for (int i = 0; i < 21; i++) {
            due.is("nothing to do", 0, () -> x.run(1000));
        }
        due.is("cycles", 21000, () -> x.count(0));
        due.is("no command", 0, () -> x.count(3));
        due.is("none due", 0, () -> x.count(9));
    }

    private static void objectsAreApart(Due due) {
        BankTimes one = new BankTimes(1, 3, 1);
        String before = Seen.of(one);
        BankTimes other = new BankTimes(1, 3, 1);
        other.time(0, 50);
        other.span(50);
        other.ask(0, true);
        other.check(0, 5, 0, 0, 0);
        other.run(60);
        due.holds("the first one is as it was", Seen.of(one).equals(before));
        due.is("its time", 3, () -> one.time(0, 3));
        due.is("its span", 0, () -> one.span(0));
        due.is("its checker", 0, () -> one.check(0, 0, 0, 0, 0));
    }
}
