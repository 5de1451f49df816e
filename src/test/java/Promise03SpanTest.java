/** Promise 3: span, and the refresh that it brings. */
public final class Promise03SpanTest {
    private static final int[] WRONG = {
        -1, 1, 49, 10001, 48, 10002, -50, -10000, Integer.MIN_VALUE, Integer.MAX_VALUE,
    };

    public static void main(String[] args) {
        Due due = new Due();
        answersTheOneBefore(due);
        refusesOthers(due);
        refusesOthersWhileARefreshIsDue(due);
        takesItWhileAnAskWaitsAndARowIsOpen(due);
        zeroIsNever(due);
        theShortestSpan(due);
        theLongestSpan(due);
        refreshesAtEachSpan(due);
        countsFromCycleZero(due);
        closesTheLowestThatMayBe(due);
        servesNoAskWhileDue(due);
        staysDueUntilDone(due);
        staysDueWhenTheSpanEnds(due);
        twoThatAreDueAreOne(due);
        due.end();
    }

    private static void answersTheOneBefore(Due due) {
        BankTimes x = new BankTimes(0, 0, 0);
        due.is("first", 0, () -> x.span(50));
        due.is("second", 50, () -> x.span(10000));
        due.is("third", 10000, () -> x.span(0));
        due.is("fourth", 0, () -> x.span(0));
    }

    private static void refusesOthers(Due due) {
        BankTimes x = new BankTimes(0, 0, 0);
        x.span(77);
        String before = Seen.of(x);
        for (int w : WRONG) {
            due.throwing("span " + w, IllegalArgumentException.class, () -> x.span(w));
        }
        due.unchanged(x, before);
        due.is("unchanged", 77, () -> x.span(0));
    }

    private static void refusesOthersWhileARefreshIsDue(Due due) {
        BankTimes x = new BankTimes(0, 0, 0);
        x.span(50);
        x.run(49);
        x.ask(0, false);
        x.run(1);
        x.ask(0, false);
        x.run(1);
        String before = Seen.of(x);
        for (int w : WRONG) {
            due.throwing("span " + w, IllegalArgumentException.class, () -> x.span(w));
        }
        due.unchanged(x, before);
        due.is("unchanged", 50, () -> x.span(50));
    }

    private static void takesItWhileAnAskWaitsAndARowIsOpen(Due due) {
        BankTimes x = new BankTimes(0, 0, 0);
        x.ask(0, false);
        due.is("an ask waits", 0, () -> x.span(50));
        x.run(4);
        due.is("a row is open", 50, () -> x.span(60));
        x.run(56);
        due.is("it binds", 60, () -> x.command(2, 1));
        due.is("by a CLOSE", 3, () -> x.command(2, 2));
    }

    private static void zeroIsNever(Due due) {
        BankTimes x = new BankTimes(1, 3, 0);
        x.span(50);
        x.run(49);
        due.is("one cycle before", 50, () -> x.span(0));
        for (int i = 0; i < 12; i++) {
            x.run(1000);
        }
        due.is("never", 0, () -> x.count(3));
        due.is("none due", 0, () -> x.count(9));
    }

    private static void theShortestSpan(Due due) {
        BankTimes x = new BankTimes(0, 3, 0);
        x.span(50);
        x.run(1000);
        due.is("twenty", 20, () -> x.count(8));
        for (int k = 0; k < 20; k++) {
            commandIs(due, x, k, 0, 50 * (k + 1), 4, 0, 0);
        }
    }

    private static void theLongestSpan(Due due) {
        BankTimes x = new BankTimes(0, 3, 0);
        x.span(10000);
        for (int round = 1; round <= 3; round++) {
            for (int i = 0; i < 9; i++) {
                x.run(1000);
            }
            x.run(999);
            int before = round - 1;
            due.is("one cycle before", before, () -> x.count(8));
            x.run(1);
            due.is("at its cycle", before + 1, () -> x.count(8));
            commandIs(due, x, before, 0, 10000 * round, 4, 0, 0);
        }
    }

    private static void commandIs(Due due, BankTimes x, int k, int... parts) {
        for (int what = 0; what < parts.length; what++) {
            int w = what;
            due.is("command " + k + " part " + w, parts[w], () -> x.command(k, w));
        }
    }

    private static void refreshesAtEachSpan(Due due) {
        BankTimes x = new BankTimes(1, 2, 0);
        x.span(50);
        x.run(49);
        due.is("none before", 0, () -> x.count(3));
        x.run(1);
        due.is("both", 2, () -> x.count(8));
        due.is("none due", 0, () -> x.count(9));
        x.run(100);
        due.is("six", 6, () -> x.count(8));
        commandIs(due, x, 0, 0, 50, 4, 0, 0);
        commandIs(due, x, 1, 1, 50, 4, 0, 0);
        commandIs(due, x, 4, 0, 150, 4, 0, 0);
        x.span(0);
        x.run(1000);
        due.is("never", 6, () -> x.count(8));
    }

    private static void countsFromCycleZero(Due due) {
        BankTimes x = new BankTimes(0, 0, 0);
        x.run(70);
        x.span(60);
        x.run(49);
        due.is("not before 120", 0, () -> x.count(8));
        x.run(1);
        due.is("at 120", 1, () -> x.count(8));
    }

    private static void closesTheLowestThatMayBe(Due due) {
        BankTimes x = new BankTimes(0, 2, 0);
        x.span(50);
        x.ask(3 << 4, false);
        x.ask(2 << 4, false);
        x.run(45);
        x.ask(5 << 6, false);
        x.run(9);
        // ACTIVATE of bank 0 at 46, so its CLOSE must wait until 53.
        commandIs(due, x, 6, 0, 50, 3, 2, 0);
        commandIs(due, x, 7, 0, 51, 3, 3, 0);
        commandIs(due, x, 8, 0, 53, 3, 0, 5);
        commandIs(due, x, 9, 0, 54, 4, 0, 0);
        due.is("commands", 10, () -> x.count(3));
    }

    private static void servesNoAskWhileDue(Due due) {
        for (int scheduler = 0; scheduler < 4; scheduler++) {
            BankTimes x = new BankTimes(0, 1, scheduler);
            x.span(50);
            x.ask(0, false);
            x.run(44);
            x.ask(1 << 4, false);
            x.ask(0, true);
            x.run(5);
            x.ask(0, false);
            due.is("none due yet", 0, () -> x.count(9));
            x.run(1);
            due.is("due", 1, () -> x.count(9));
            int waiting = x.count(10);
            x.run(10);
            due.is("none served", waiting, () -> x.count(10));
            due.is("refreshed", 1, () -> x.count(8));
            x.run(30);
            due.is("served later", 0, () -> x.count(10));
        }
    }

    private static void staysDueUntilDone(Due due) {
        BankTimes x = new BankTimes(0, 0, 0);
        x.time(7, 100);
        x.span(50);
        x.run(99);
        due.is("refreshed at 50", 1, () -> x.count(8));
        due.is("not due before 100", 0, () -> x.count(9));
        x.run(1);
        due.is("due at 100", 1, () -> x.count(9));
        x.run(49);
        due.is("due at 149", 1, () -> x.count(9));
        x.run(1);
        due.is("refreshed at 150", 2, () -> x.count(8));
        due.is("one at a time is due", 0, () -> x.count(9));
        x.run(100);
        due.is("refreshed at 250", 250, () -> x.command(2, 1));
    }

    private static void staysDueWhenTheSpanEnds(Due due) {
        BankTimes x = new BankTimes(0, 0, 0);
        x.span(50);
        x.run(47);
        x.ask(0, false);
        x.run(3);
        due.is("a row is open", 1, () -> x.count(9));
        x.span(0);
        due.is("still due", 1, () -> x.count(9));
        x.run(20);
        due.is("done", 1, () -> x.count(8));
        due.is("no more due", 0, () -> x.count(9));
    }

    private static void twoThatAreDueAreOne(Due due) {
        BankTimes x = new BankTimes(0, 0, 0);
        x.time(5, 100);
        x.span(50);
        x.run(44);
        x.ask(0, true);
        x.run(4);
        due.is("written at 48", 48, () -> x.done(0));
        // Its CLOSE must wait until 148: the refreshes of 50 and 100 are both due by then.
        x.run(99);
        due.is("due", 1, () -> x.count(9));
        due.is("none yet", 0, () -> x.count(8));
        x.run(2);
        commandIs(due, x, 2, 0, 148, 3, 0, 0);
        commandIs(due, x, 3, 0, 149, 4, 0, 0);
        due.is("done for both", 0, () -> x.count(9));
        x.run(1);
        due.is("the one of 150", 1, () -> x.count(9));
    }
}
