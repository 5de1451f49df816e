/** Promise 7: command. */
public final class Promise07CommandTest {
    public static void main(String[] args) {
        Due due = new Due();
        tellsAllParts(due);
        noneIsThereAtFirst(due);
        refusesAKThatIsNotThere(due);
        refusesAnotherWhat(due);
        keepsTheLatest(due);
        keepsJustFiveHundredAndTwelve(due);
        keepsAllPartsOfTheLatest(due);
        checkedOnesAreNotGiven(due);
        due.end();
    }

    private static void tellsAllParts(Due due) {
        BankTimes x = new BankTimes(1, 1, 0);
        // Channel 1, bank 1: row 9 read, row 16383 written; channel 0, bank 0, row 2 read.
        x.ask(9 << 6 | 1 << 5 | 1 << 4 | 7, false);
        x.ask(16383 << 6 | 1 << 5 | 1 << 4, true);
        x.ask(2 << 6, false);
        x.span(50);
        x.run(60);
        int[][] want = {
            {0, 1, 0, 0, 2},
            {1, 1, 0, 1, 9},
            {0, 4, 1, 0, 2},
            {1, 4, 1, 1, 9},
            {1, 8, 3, 1, 9},
            {1, 11, 0, 1, 16383},
            {1, 14, 2, 1, 16383},
            {0, 50, 3, 0, 2},
            {1, 50, 3, 1, 16383},
            {0, 51, 4, 0, 0},
            {1, 51, 4, 0, 0},
        };
        due.is("commands", want.length, () -> x.count(3));
        for (int k = 0; k < want.length; k++) {
            for (int what = 0; what < 5; what++) {
                int i = k;
                int w = what;
                due.is("command " + i + " " + w, want[i][w], () -> x.command(i, w));
            }
        }
        due.throwing("behind", IndexOutOfBoundsException.class, () -> x.command(want.length, 0));
    }

    private static void noneIsThereAtFirst(Due due) {
        BankTimes x = new BankTimes(0, 0, 0);
        x.ask(0, false);
        for (int what = -1; what <= 5; what++) {
            int w = what;
            due.throwing("what " + w, IndexOutOfBoundsException.class, () -> x.command(0, w));
            due.throwing("below " + w, IndexOutOfBoundsException.class, () -> x.command(-1, w));
        }
    }

    private static void refusesAKThatIsNotThere(Due due) {
        BankTimes x = new BankTimes(0, 0, 0);
        x.ask(0, false);
        x.run(10);
        due.is("k 1", 1, () -> x.command(1, 2));
        int[] none = {-1, 2, 3, -2, 511, 512, Integer.MIN_VALUE, Integer.MAX_VALUE};
        for (int k : none) {
            for (int what = 0; what < 5; what++) {
                int w = what;
                due.throwing("k " + k, IndexOutOfBoundsException.class, () -> x.command(k, w));
            }
        }
    }

    private static void refusesAnotherWhat(Due due) {
        BankTimes x = new BankTimes(0, 0, 0);
        x.ask(0, false);
        x.run(10);
        int[] others = {-1, 5, 6, -5, Integer.MIN_VALUE, Integer.MAX_VALUE};
        for (int o : others) {
            due.throwing("what " + o, IndexOutOfBoundsException.class, () -> x.command(0, o));
            due.throwing("what " + o, IndexOutOfBoundsException.class, () -> x.command(1, o));
        }
    }

    private static void keepsTheLatest(Due due) {
        BankTimes x = new BankTimes(1, 0, 0);
        x.span(50);
        int given = 0;
        for (int i = 1; i <= 30; i++) {
            x.run(1000);
            given += 40;
            int all = given;
            int kept = Math.min(all, 512);
            due.is("so far", all, () -> x.count(3));
            // Each span gives channel 0 and channel 1 one REFRESH each.
            int oldest = all - kept;
            due.is("oldest", 50 * (oldest / 2 + 1), () -> x.command(0, 1));
            due.is("newest", i * 1000, () -> x.command(kept - 1, 1));
            due.is("newest's channel", 1, () -> x.command(kept - 1, 0));
            due.is("middle", 50 * ((oldest + 7) / 2 + 1), () -> x.command(7, 1));
            due.throwing("behind", IndexOutOfBoundsException.class, () -> x.command(kept, 1));
        }
    }

    /** One REFRESH in 50 cycles, one span at a time at the edges where the kept ones are full. */
    private static void keepsJustFiveHundredAndTwelve(Due due) {
        BankTimes x = new BankTimes(0, 0, 0);
        x.span(50);
        int[] edges = {511, 512, 513, 514, 1023, 1024, 1025, 1536, 1537};
        int given = 0;
        for (int edge : edges) {
            for (; given + 20 <= edge; given += 20) {
                x.run(1000);
            }
            for (; given < edge; given++) {
                x.run(50);
            }
            int kept = Math.min(edge, 512);
            due.is("so far", edge, () -> x.count(3));
            due.is("k 0 of " + edge, 50 * (edge - kept + 1), () -> x.command(0, 1));
            due.is("the last one of " + edge, 50 * edge, () -> x.command(kept - 1, 1));
            due.throwing("behind it", IndexOutOfBoundsException.class, () -> x.command(kept, 1));
            int[] between = {1, 2, 255, 256, 257, 509, 510};
            for (int k : between) {
                due.is("k " + k + " of " + edge, 50 * (edge - kept + 1 + k), () -> x.command(k, 1));
            }
        }
    }

    private static void keepsAllPartsOfTheLatest(Due due) {
        BankTimes x = new BankTimes(1, 3, 3);
        PlainModel model = new PlainModel(1, 3, 3);
        x.span(100);
        model.span(100);
        for (int i = 0; i < 200; i++) {
            int address = i * 37 % 512 << 4;
            x.ask(address, i % 3 == 0);
            model.ask(address, i % 3 == 0);
            x.run(20);
            model.run(20);
        }
        due.is("more than are kept", model.given.size(), () -> x.count(3));
        due.holds("more than are kept", model.given.size() > 540);
        for (int k = 1; k < 512; k += 30) {
            for (int what = 0; what < 5; what++) {
                int i = k;
                int w = what;
                due.is("command " + i + " " + w, model.command(i, w), () -> x.command(i, w));
            }
        }
    }

    private static void checkedOnesAreNotGiven(Due due) {
        BankTimes x = new BankTimes(0, 0, 0);
        due.is("check", 0, () -> x.check(0, 5, 0, 0, 0));
        due.throwing("none given", IndexOutOfBoundsException.class, () -> x.command(0, 0));
    }
}
