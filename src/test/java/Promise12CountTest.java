/** Promise 12: count. */
public final class Promise12CountTest {
    public static void main(String[] args) {
        Due due = new Due();
        countsAll(due);
        othersAreNone(due);
        checksDoNotCount(due);
        due.end();
    }

    private static void countsAre(Due due, String when, BankTimes x, int... want) {
        for (int what = 0; what < want.length; what++) {
            int w = what;
            due.is(when + ": count " + w, want[w], () -> x.count(w));
        }
    }

    private static void countsAll(Due due) {
        BankTimes x = new BankTimes(1, 1, 0);
        x.ask(0, false);
        x.ask(16, true);
        x.run(2);
        x.ask(1 << 6, false);
        countsAre(due, "early", x, 2, 3, 0, 2, 2, 0, 0, 0, 0, 0, 3, 0, 2, 2);
        x.run(3);
        countsAre(due, "two done", x, 5, 3, 2, 4, 2, 1, 1, 0, 0, 0, 1, 8, 2, 2);
        // CLOSE at 8, ACTIVATE at 11, READ at 14 of the ask that came at 2.
        x.run(10);
        countsAre(due, "all done", x, 15, 3, 3, 7, 3, 2, 1, 1, 0, 0, 0, 20, 2, 2);
        x.span(50);
        x.run(35);
        countsAre(due, "due", x, 50, 3, 3, 9, 3, 2, 1, 3, 0, 2, 0, 20, 2, 2);
        x.run(1);
        countsAre(due, "refreshed", x, 51, 3, 3, 11, 3, 2, 1, 3, 2, 0, 0, 20, 2, 2);
    }

    private static void othersAreNone(Due due) {
        BankTimes x = new BankTimes(0, 0, 0);
        int[] others = {-1, 14, 15, Integer.MIN_VALUE, Integer.MAX_VALUE};
        for (int o : others) {
            due.is("count " + o, BankTimes.NONE, () -> x.count(o));
        }
    }

    private static void checksDoNotCount(Due due) {
        BankTimes x = new BankTimes(0, 0, 0);
        x.check(0, 5, 0, 0, 0);
        x.check(0, 9, 1, 0, 0);
        countsAre(due, "checked", x, 0, 0, 0, 0, 0, 0, 0, 0, 0, 0, 0, 0, 1, 1);
    }
}
