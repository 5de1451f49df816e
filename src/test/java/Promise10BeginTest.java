/** Promise 10: begin. */
public final class Promise10BeginTest {
    public static void main(String[] args) {
        Due due = new Due();
        nothingIsOpenNothingWas(due);
        aNewObjectHasBegun(due);
        eachTimeIsForgotten(due);
        noColumnCommandWas(due);
        leavesTheMemoryAndTheTimes(due);
        due.end();
    }

    private static void nothingIsOpenNothingWas(Due due) {
        BankTimes x = new BankTimes(1, 3, 0);
        for (int c = 0; c < 2; c++) {
            int channel = c;
            for (int bank = 0; bank < 4; bank++) {
                x.check(channel, 100 + 2 * bank, 0, bank, 9);
            }
            x.check(channel, 107, 1, 0, 9);
            x.check(channel, 109, 2, 0, 9);
            due.is("before", 1, () -> x.check(channel, 0, 0, 0, 3));
        }
        x.begin();
        for (int c = 0; c < 2; c++) {
            int channel = c;
            due.is("read of none", 2, () -> x.check(channel, 110, 1, 0, 9));
            due.is("first at 0", 0, () -> x.check(channel, 0, 0, 0, 3));
            due.is("its time binds", 3, () -> x.check(channel, 2, 1, 0, 3));
            due.is("no WRITE was", 0, () -> x.check(channel, 3, 1, 0, 3));
            due.is("no four were", 0, () -> x.check(channel, 4, 0, 1, 3));
        }
        x.begin();
        due.is("REFRESH", 0, () -> x.check(1, 5, 4, 0, 0));
        x.begin();
        due.is("no REFRESH was", 0, () -> x.check(1, 5, 4, 0, 0));
        x.begin();
        x.begin();
        x.check(0, 0, 0, 0, 0);
        x.check(0, 7, 3, 0, 0);
        x.begin();
        due.is("no CLOSE was", 0, () -> x.check(0, 8, 0, 0, 0));
    }

    private static void aNewObjectHasBegun(Due due) {
        for (int kind = 0; kind < 5; kind++) {
            int k = kind;
            int want = k == 0 || k == 4 ? 0 : 2;
            for (int begins = 0; begins < 3; begins++) {
                BankTimes x = new BankTimes(1, 3, 0);
                for (int i = 0; i < begins; i++) {
                    x.begin();
                }
                due.is("kind " + k + " at 0", want, () -> x.check(0, 0, k, 0, 0));
                due.is("kind " + k + " at 0 in 1", want, () -> x.check(1, 0, k, 0, 0));
            }
        }
    }

    /** With all times 100: what was before begin() binds nothing behind it. */
    private static void eachTimeIsForgotten(Due due) {
        BankTimes x = new BankTimes(0, 3, 0);
        for (int what = 0; what < 9; what++) {
            x.time(what, 100);
        }
        for (int round = 0; round < 3; round++) {
            x.begin();
            due.is("REFRESH", 0, () -> x.check(0, 0, 4, 0, 0));
            due.is("too soon", 10, () -> x.check(0, 99, 0, 0, 0));
            for (int bank = 0; bank < 4; bank++) {
                int b = bank;
                due.is("ACTIVATE", 0, () -> x.check(0, 100 + 100 * b, 0, b, 5));
            }
            due.is("WRITE", 0, () -> x.check(0, 500, 2, 0, 5));
            due.is("READ too soon", 6, () -> x.check(0, 599, 1, 0, 5));
            due.is("READ", 0, () -> x.check(0, 600, 1, 0, 5));
            due.is("CLOSE too soon", 6, () -> x.check(0, 699, 3, 0, 5));
            due.is("CLOSE", 0, () -> x.check(0, 700, 3, 0, 5));
            due.is("ACTIVATE too soon", 4, () -> x.check(0, 799, 0, 0, 5));
        }
    }

    /** An old READ or WRITE must not hold a CLOSE, though only one of its own bank would. */
    private static void noColumnCommandWas(Due due) {
        for (int k = 1; k <= 2; k++) {
            int kind = k;
            BankTimes x = new BankTimes(0, 0, 0);
            x.time(3, 100);
            x.time(5, 100);
            for (int round = 0; round < 2; round++) {
                x.begin();
                due.is("ACTIVATE", 0, () -> x.check(0, 0, 0, 0, 0));
                due.is("CLOSE", 0, () -> x.check(0, 7, 3, 0, 0));
                due.is("ACTIVATE again", 0, () -> x.check(0, 10, 0, 0, 0));
                due.is("READ or WRITE", 0, () -> x.check(0, 13, kind, 0, 0));
                due.is("too soon", kind == 1 ? 6 : 8, () -> x.check(0, 112, 3, 0, 0));
            }
        }
    }

    private static void leavesTheMemoryAndTheTimes(Due due) {
        BankTimes x = new BankTimes(0, 0, 0);
        x.time(0, 9);
        x.span(60);
        x.ask(7 << 4, false);
        x.run(1);
        x.begin();
        due.is("open", 7, () -> x.open(0, 0));
        due.is("cycle", 1, () -> x.count(0));
        due.is("commands", 1, () -> x.count(3));
        due.is("span", 60, () -> x.span(60));
        due.is("activate", 0, () -> x.check(0, 0, 0, 0, 0));
        due.is("the time is kept", 3, () -> x.check(0, 8, 1, 0, 0));
        x.run(20);
        due.is("done", 10, () -> x.done(0));
    }
}
