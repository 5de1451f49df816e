/** The section "Terms": what binds all promises and belongs to none of them alone. */
public final class TermsTest {
    public static void main(String[] args) {
        Due due = new Due();
        for (int scheduler = 0; scheduler < 4; scheduler++) {
            oneCommandInACycleOfAChannel(due, scheduler);
        }
        channelsGetTheirsInOneCycle(due);
        fourActivatesOfAChannelAlone(due);
        aRefreshBindsItsChannelAlone(due);
        aRefreshComesWhenItMayBe(due);
        aRefreshLooksAtTheRulesOfClose(due);
        aRefreshComesBeforeAReadyAsk(due);
        anAskThatIsDoneLeavesRoomAtOnce(due);
        due.end();
    }

    private static void oneCommandInACycleOfAChannel(Due due, int scheduler) {
        BankTimes x = new BankTimes(1, 3, scheduler);
        for (int what = 0; what < 9; what++) {
            x.time(what, 1);
        }
        x.span(50);
        for (int i = 0; i < 32; i++) {
            x.ask(i * 7 % 64 << 4, i % 3 == 0);
            x.run(3);
        }
        int commands = Math.min(80, x.count(3));
        int[] last = {0, 0};
        int cycle = 0;
        for (int k = 0; k < commands; k++) {
            int channel = x.command(k, 0);
            int at = x.command(k, 1);
            due.holds("command " + k + " is later in its channel", at > last[channel]);
            due.holds("command " + k + " is as it was given", at > cycle || channel == 1);
            last[channel] = at;
            cycle = at;
        }
    }

    private static void channelsGetTheirsInOneCycle(Due due) {
        BankTimes x = new BankTimes(1, 0, 0);
        x.ask(16, false);
        x.ask(0, false);
        x.run(4);
        int[][] want = {{0, 1, 0}, {1, 1, 0}, {0, 4, 1}, {1, 4, 1}};
        for (int k = 0; k < want.length; k++) {
            for (int what = 0; what < 3; what++) {
                int i = k;
                int w = what;
                due.is("command " + i + " " + w, want[i][w], () -> x.command(i, w));
            }
        }
    }

    private static void fourActivatesOfAChannelAlone(Due due) {
        BankTimes x = new BankTimes(1, 3, 1);
        x.time(8, 100);
        for (int bank = 0; bank < 4; bank++) {
            x.ask(bank << 5, false);
        }
        x.ask(1 << 4, false);
        x.run(12);
        due.is("channel 1 has its own", 4, () -> x.done(4));
        due.is("the fourth one", 10, () -> x.done(3));
        x.ask(4 << 5, false);
        x.ask(1 << 4 | 1 << 5, false);
        x.run(88);
        due.is("the fifth one of channel 0 waits", BankTimes.NONE, () -> x.open(0, 4));
        due.is("the second one of channel 1", 16, () -> x.done(6));
        x.run(1);
        due.is("it is 100 cycles behind the first", 0, () -> x.open(0, 4));
    }

    private static void aRefreshBindsItsChannelAlone(Due due) {
        BankTimes x = new BankTimes(1, 0, 0);
        x.time(7, 100);
        x.span(50);
        x.run(46);
        x.ask(16, false);
        x.run(20);
        // ACTIVATE of channel 1 at 47, CLOSE at 54, REFRESH at 55; the REFRESH of channel 0 was at 50.
        due.is("channel 0", 50, () -> x.command(1, 1));
        due.is("channel 1", 55, () -> x.command(3, 1));
        due.is("a REFRESH", 4, () -> x.command(3, 2));
        x.span(0);
        x.ask(0, false);
        x.run(100);
        due.is("channel 0 from 150 on", 153, () -> x.done(1));
        due.is("channel 1 from 155 on", 158, () -> x.done(0));
    }

    private static void aRefreshComesWhenItMayBe(Due due) {
        BankTimes x = new BankTimes(0, 0, 0);
        x.time(7, 51);
        x.span(50);
        x.run(100);
        due.is("not at 100", 1, () -> x.count(8));
        due.is("but due", 1, () -> x.count(9));
        x.run(1);
        due.is("at 101", 101, () -> x.command(1, 1));
        BankTimes y = new BankTimes(0, 0, 0);
        y.time(7, 50);
        y.span(50);
        y.run(100);
        due.is("just at 100", 100, () -> y.command(1, 1));
    }

    /** Each time that holds a CLOSE holds that of a refresh: ACTIVATE at 44, READ or WRITE at 47. */
    private static void aRefreshLooksAtTheRulesOfClose(Due due) {
        int[] whats = {2, 3, 5};
        int[] closed = {44 + 60, 47 + 60, 47 + 60};
        for (int i = 0; i < whats.length; i++) {
            BankTimes x = new BankTimes(0, 0, 0);
            x.time(whats[i], 60);
            x.span(50);
            x.run(43);
            x.ask(0, whats[i] == 5);
            x.run(100);
            int want = closed[i];
            due.is("CLOSE by time " + whats[i], want, () -> x.command(2, 1));
            due.is("REFRESH behind it", want + 1, () -> x.command(3, 1));
        }
    }

    private static void aRefreshComesBeforeAReadyAsk(Due due) {
        for (int scheduler = 0; scheduler < 4; scheduler++) {
            BankTimes x = new BankTimes(0, 0, scheduler);
            x.ask(0, false);
            x.run(49);
            x.span(50);
            x.ask(0, false);
            x.run(1);
            due.is("CLOSE, though its row is open", 3, () -> x.command(2, 2));
            x.run(1);
            due.is("REFRESH, though it could be opened", 4, () -> x.command(3, 2));
            x.run(9);
            due.is("nothing until 60", 4, () -> x.count(3));
            x.run(4);
            due.is("READ behind ACTIVATE at 61", 64, () -> x.done(1));
        }
    }

    private static void anAskThatIsDoneLeavesRoomAtOnce(Due due) {
        for (int scheduler = 0; scheduler < 4; scheduler++) {
            BankTimes x = new BankTimes(0, 0, scheduler);
            for (int i = 0; i < 8; i++) {
                x.ask(0, false);
            }
            x.run(3);
            due.throwing("full", UnsupportedOperationException.class, () -> x.ask(0, false));
            x.run(1);
            due.is("seven wait", 7, () -> x.count(10));
            due.is("room for one", 8, () -> x.ask(0, false));
            due.throwing("no more", UnsupportedOperationException.class, () -> x.ask(0, false));
            x.run(14);
            due.is("one waits", 1, () -> x.count(10));
            x.run(2);
            due.is("the last one", 20, () -> x.done(8));
        }
    }
}
