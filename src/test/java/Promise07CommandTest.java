/** Promise 7: command. */
public final class Promise07CommandTest {
    public static void main(String[] args) {
        Due due = new Due();
        tellsAllParts(due);
        refusesOthers(due);
        keepsTheLatest(due);
        due.end();
    }

    private static void tellsAllParts(Due due) {
        BankTimes x = new BankTimes(1, 1, 0);
        // Channel 1, bank 1: row 9 read, row 16383 written; channel 0, bank 0, row 2 read.
        x.ask(9 << 6 | 1 << 5 | 1 << 4 | 7, false);
        x.ask(16383 << 6 | 1 << 5 | 1 << 4, true);
        x.ask(2 << 6, false);
        x.span(50);
        x.run(60);
        int[][] want = {
            {0, 1, 0, 0, 2},
            {1, 1, 0, 1, 9},
            {0, 4, 1, 0, 2},
            {1, 4, 1, 1, 9},
            {1, 8, 3, 1, 9},
            {1, 11, 0, 1, 16383},
            {1, 14, 2, 1, 16383},
            {0, 50, 3, 0, 2},
            {1, 50, 3, 1, 16383},
            {0, 51, 4, 0, 0},
            {1, 51, 4, 0, 0},
        };
        due.is("commands", want.length, () -> x.count(3));
        for (int k = 0; k < want.length; k++) {
            for (int what = 0; what < 5; what++) {
                int i = k;
                int w = what;
                due.is("command " + i + " " + w, want[i][w], () -> x.command(i, w));
            }
        }
        due.throwing("behind", IndexOutOfBoundsException.class, () -> x.command(want.length, 0));
    }

    private static void refusesOthers(Due due) {
        BankTimes x = new BankTimes(0, 0, 0);
        due.throwing("none yet", IndexOutOfBoundsException.class, () -> x.command(0, 0));
        x.ask(0, false);
        x.run(10);
        int[] wrong = {-1, 5, Integer.MIN_VALUE, Integer.MAX_VALUE};
        for (int w : wrong) {
            due.throwing("what " + w, IndexOutOfBoundsException.class, () -> x.command(0, w));
            due.throwing("k " + w, IndexOutOfBoundsException.class, () -> x.command(w, 0));
        }
        due.throwing("k 2", IndexOutOfBoundsException.class, () -> x.command(2, 4));
        due.is("k 1", 1, () -> x.command(1, 2));
    }

    private static void keepsTheLatest(Due due) {
        BankTimes x = new BankTimes(1, 0, 0);
        x.span(50);
        int given = 0;
        for (int i = 1; i <= 30; i++) {
            x.run(1000);
            given += 40;
            int all = given;
            int kept = Math.min(all, 512);
            due.is("so far", all, () -> x.count(3));
            // Each span gives channel 0 and channel 1 one REFRESH each.
            int oldest = all - kept;
            due.is("oldest", 50 * (oldest / 2 + 1), () -> x.command(0, 1));
            due.is("newest", i * 1000, () -> x.command(kept - 1, 1));
            due.is("newest's channel", 1, () -> x.command(kept - 1, 0));
            due.is("middle", 50 * ((oldest + 7) / 2 + 1), () -> x.command(7, 1));
            due.throwing("behind", IndexOutOfBoundsException.class, () -> x.command(kept, 1));
        }
    }
}
