/** Promise 12: count. */
public final class Promise12CountTest {
    public static void main(String[] args) {
        Due due = new Due();
        countsAll(due);
        othersAreNone(due);
        checksDoNotCount(due);
        refusedCallsDoNotCount(due);
        refreshesThatAreDue(due);
        theShapeIsTold(due);
        moreThanAreKept(due);
        askingChangesNothing(due);
        due.end();
    }

    private static void countsAre(Due due, String when, BankTimes x, int... want) {
        for (int what = 0; what < want.length; what++) {
            int w = what;
            due.is(when + ": count " + w, want[w], () -> x.count(w));
        }
    }

    private static void countsAll(Due due) {
        BankTimes x = new BankTimes(1, 1, 0);
        x.ask(0, false);
        x.ask(16, true);
        x.run(2);
        x.ask(1 << 6, false);
        countsAre(due, "early", x, 2, 3, 0, 2, 2, 0, 0, 0, 0, 0, 3, 0, 2, 2);
        x.run(3);
        countsAre(due, "two done", x, 5, 3, 2, 4, 2, 1, 1, 0, 0, 0, 1, 8, 2, 2);
        // CLOSE at 8, ACTIVATE at 11, READ at 14 of the ask that came at 2.
        x.run(10);
        countsAre(due, "all done", x, 15, 3, 3, 7, 3, 2, 1, 1, 0, 0, 0, 20, 2, 2);
        x.span(50);
        x.run(35);
        countsAre(due, "due", x, 50, 3, 3, 9, 3, 2, 1, 3, 0, 2, 0, 20, 2, 2);
        x.run(1);
        countsAre(due, "refreshed", x, 51, 3, 3, 11, 3, 2, 1, 3, 2, 0, 0, 20, 2, 2);
    }

    private static void othersAreNone(Due due) {
        BankTimes x = new BankTimes(0, 0, 0);
        int[] others = {-1, 14, 15, -2, -14, 100, Integer.MIN_VALUE, Integer.MAX_VALUE};
        for (int round = 0; round < 2; round++) {
            for (int o : others) {
                due.is("count " + o, BankTimes.NONE, () -> x.count(o));
            }
            x.ask(0, false);
            x.run(5);
        }
    }

    private static void checksDoNotCount(Due due) {
        BankTimes x = new BankTimes(0, 0, 0);
        x.check(0, 5, 0, 0, 0);
        x.check(0, 9, 1, 0, 0);
        countsAre(due, "checked", x, 0, 0, 0, 0, 0, 0, 0, 0, 0, 0, 0, 0, 1, 1);
    }

    private static void refusedCallsDoNotCount(Due due) {
        BankTimes x = new BankTimes(0, 0, 0);
        due.throwing("ask", IllegalArgumentException.class, () -> x.ask(-1, false));
        due.throwing("run", IllegalArgumentException.class, () -> x.run(1001));
        countsAre(due, "refused", x, 0, 0, 0, 0, 0, 0, 0, 0, 0, 0, 0, 0, 1, 1);
        for (int i = 0; i < 8; i++) {
            x.ask(0, false);
        }
        due.throwing("full", UnsupportedOperationException.class, () -> x.ask(0, false));
        countsAre(due, "full", x, 0, 8, 0, 0, 0, 0, 0, 0, 0, 0, 8, 0, 1, 1);
    }

    private static void refreshesThatAreDue(Due due) {
        BankTimes x = new BankTimes(1, 0, 0);
        x.span(50);
        x.ask(16, false);
        x.run(46);
        x.ask(0, true);
        x.run(3);
        due.is("before the span", 0, () -> x.count(9));
        // Channel 0 was activated at 47; channel 1 long ago, so it is closed at 50.
        x.run(1);
        due.is("both at 50", 2, () -> x.count(9));
        x.run(1);
        due.is("channel 1 is done", 1, () -> x.count(9));
        due.is("channel 1 is done", 1, () -> x.count(8));
        x.run(3);
        due.is("closed at 54", 1, () -> x.count(9));
        x.run(1);
        due.is("none at 55", 0, () -> x.count(9));
    }

    private static void theShapeIsTold(Due due) {
        for (int shape = 0; shape < 8; shape++) {
            BankTimes x = new BankTimes(shape & 1, shape >> 1, 0);
            int channels = 1 + (shape & 1);
            int banks = 1 << (shape >> 1);
            due.is("C", channels, () -> x.count(12));
            due.is("B", banks, () -> x.count(13));
        }
    }

    /** Commands so far are all that were given, not those alone that are kept. */
    private static void moreThanAreKept(Due due) {
        BankTimes x = new BankTimes(1, 0, 0);
        x.span(50);
        for (int i = 0; i < 100; i++) {
            x.run(1000);
        }
        due.is("cycles", 100000, () -> x.count(0));
        due.is("commands", 4000, () -> x.count(3));
        due.is("refreshes", 4000, () -> x.count(8));
    }

    private static void askingChangesNothing(Due due) {
        BankTimes x = new BankTimes(1, 1, 1);
        x.span(50);
        for (int i = 0; i < 8; i++) {
            x.ask(i << 4, i % 2 == 0);
        }
        x.run(20);
        String before = Seen.of(x);
        due.unchanged(x, before);
        x.part(77, 2);
        x.begin();
        x.check(0, 1, 0, 0, 0);
        due.unchanged(x, before);
    }
}
