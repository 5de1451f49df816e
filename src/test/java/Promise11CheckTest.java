/** Promise 11: check. */
public final class Promise11CheckTest {
    private static final int A = 0;
    private static final int R = 1;
    private static final int W = 2;
    private static final int C = 3;
    private static final int F = 4;

    /** Rows of cycle, kind, bank; then the last command at its first allowed cycle; then the rule. */
    private static final int[][][] EDGES = {
        {{0, A, 0}, {3, R, 0}, {3}},
        {{0, A, 0}, {3, W, 0}, {3}},
        {{0, A, 0}, {7, C, 0}, {10, A, 0}, {4}},
        {{0, A, 0}, {7, C, 0}, {5}},
        {{0, A, 0}, {4, R, 0}, {6, R, 0}, {6}},
        {{0, A, 0}, {4, R, 0}, {6, W, 0}, {6}},
        {{0, A, 0}, {4, W, 0}, {6, W, 0}, {6}},
        {{0, A, 0}, {2, A, 1}, {6, R, 0}, {8, R, 1}, {6}},
        {{0, A, 0}, {8, R, 0}, {10, C, 0}, {6}},
        {{0, A, 0}, {2, A, 1}, {6, W, 0}, {10, R, 1}, {7}},
        {{0, A, 0}, {8, W, 0}, {13, C, 0}, {8}},
        {{0, A, 0}, {2, A, 1}, {9}},
        {{0, F, 0}, {10, A, 0}, {10}},
        {{0, F, 0}, {10, F, 0}, {10}},
        {{0, A, 0}, {2, A, 1}, {4, A, 2}, {6, A, 3}, {12, A, 4}, {11}},
        {{0, A, 0}, {6, A, 1}, {8, A, 2}, {10, A, 3}, {12, A, 4}, {18, A, 5}, {11}},
    };

    public static void main(String[] args) {
        Due due = new Due();
        for (int[][] edge : EDGES) {
            timesBindToTheCycle(due, edge);
        }
        timesThatDoNotBind(due);
        theLowestOfSeveralIsTold(due);
        cyclesMustGrow(due);
        banksMustFit(due);
        refusedOnesAreNotTaken(due);
        channelsAreApart(due);
        goesByTheTimesAsTheyAreThen(due);
        refusesOthers(due);
        takesFarCycles(due);
        due.end();
    }

    private static void timesBindToTheCycle(Due due, int[][] edge) {
        BankTimes x = new BankTimes(0, 3, 0);
        int last = edge.length - 2;
        for (int i = 0; i < last; i++) {
            int[] c = edge[i];
            due.is("before the edge", 0, () -> x.check(0, c[0], c[1], c[2], 0));
        }
        int[] c = edge[last];
        int rule = edge[last + 1][0];
        due.is("rule " + rule, rule, () -> x.check(0, c[0] - 1, c[1], c[2], 0));
        due.is("at the edge of " + rule, 0, () -> x.check(0, c[0], c[1], c[2], 0));
    }

    private static void timesThatDoNotBind(Due due) {
        BankTimes x = new BankTimes(0, 3, 0);
        x.check(0, 0, A, 0, 0);
        x.check(0, 2, A, 1, 0);
        x.check(0, 8, W, 0, 0);
        due.is("WRITE of another bank and CLOSE", 0, () -> x.check(0, 9, C, 1, 0));
        due.is("CLOSE of another bank and ACTIVATE", 0, () -> x.check(0, 10, A, 2, 0));
        x.check(0, 17, C, 0, 0);
        due.is("CLOSE of the last and REFRESH is soon", 0, () -> x.check(0, 18, C, 2, 0));
        due.is("CLOSE and REFRESH", 0, () -> x.check(0, 19, F, 0, 0));
    }

    private static void theLowestOfSeveralIsTold(Due due) {
        BankTimes x = new BankTimes(0, 0, 0);
        x.check(0, 0, A, 0, 4);
        x.check(0, 3, W, 0, 4);
        due.is("3 and 4", 6, () -> x.check(0, 4, R, 0, 4));
        due.is("4 alone", 7, () -> x.check(0, 5, R, 0, 4));
        due.is("2 and 5", 5, () -> x.check(0, 6, C, 0, 4));
        due.is("5 alone", 8, () -> x.check(0, 7, C, 0, 4));
        due.is("rule 1 before 2", 1, () -> x.check(0, 3, A, 0, 4));
        due.is("rule 2 before times", 2, () -> x.check(0, 4, R, 0, 5));
        due.is("CLOSE", 0, () -> x.check(0, 8, C, 0, 4));
        due.is("REFRESH", 0, () -> x.check(0, 9, F, 0, 0));
        due.is("1 and 7", 4, () -> x.check(0, 10, A, 0, 4));
        due.is("7 alone", 10, () -> x.check(0, 11, A, 0, 4));
    }

    private static void cyclesMustGrow(Due due) {
        BankTimes x = new BankTimes(0, 1, 0);
        due.is("first at 0", 0, () -> x.check(0, 0, A, 0, 0));
        due.is("same", 1, () -> x.check(0, 0, A, 1, 0));
        due.is("later", 0, () -> x.check(0, 50, A, 1, 0));
        due.is("same again", 1, () -> x.check(0, 50, R, 0, 0));
        due.is("earlier", 1, () -> x.check(0, 49, R, 0, 0));
        due.is("just later", 0, () -> x.check(0, 51, R, 0, 0));
    }

    private static void banksMustFit(Due due) {
        BankTimes x = new BankTimes(0, 1, 0);
        due.is("READ, none open", 2, () -> x.check(0, 100, R, 0, 0));
        due.is("WRITE, none open", 2, () -> x.check(0, 100, W, 0, 0));
        due.is("CLOSE, none open", 2, () -> x.check(0, 100, C, 0, 0));
        due.is("REFRESH, none open", 0, () -> x.check(0, 100, F, 0, 0));
        due.is("ACTIVATE", 0, () -> x.check(0, 200, A, 1, 65535));
        due.is("ACTIVATE again", 2, () -> x.check(0, 300, A, 1, 65535));
        due.is("READ, another row", 2, () -> x.check(0, 300, R, 1, 65534));
        due.is("WRITE, another row", 2, () -> x.check(0, 300, W, 1, 0));
        due.is("READ, another bank", 2, () -> x.check(0, 300, R, 0, 65535));
        due.is("REFRESH, one open", 2, () -> x.check(0, 300, F, 0, 0));
        due.is("READ", 0, () -> x.check(0, 300, R, 1, 65535));
        due.is("WRITE", 0, () -> x.check(0, 400, W, 1, 65535));
        due.is("CLOSE, whatever row", 0, () -> x.check(0, 500, C, 1, 7));
        due.is("CLOSE again", 2, () -> x.check(0, 600, C, 1, 65535));
        due.is("REFRESH, closed", 0, () -> x.check(0, 600, F, 0, 0));
    }

    private static void refusedOnesAreNotTaken(Due due) {
        BankTimes x = new BankTimes(0, 1, 0);
        x.check(0, 10, A, 0, 1);
        due.is("too soon", 9, () -> x.check(0, 11, A, 1, 1));
        due.is("bank 1 is not open", 2, () -> x.check(0, 90, R, 1, 1));
        due.is("cycle 90 was not", 0, () -> x.check(0, 13, R, 0, 1));
        due.is("REFRESH", 2, () -> x.check(0, 80, F, 0, 0));
        due.is("no REFRESH was", 0, () -> x.check(0, 15, A, 1, 1));
    }

    private static void channelsAreApart(Due due) {
        BankTimes x = new BankTimes(1, 1, 0);
        due.is("channel 0", 0, () -> x.check(0, 10, F, 0, 0));
        due.is("channel 1", 0, () -> x.check(1, 0, A, 0, 3));
        due.is("channel 1 again", 0, () -> x.check(1, 3, R, 0, 3));
        due.is("channel 0 again", 0, () -> x.check(0, 20, A, 0, 3));
        due.is("channel 1 REFRESH", 2, () -> x.check(1, 20, F, 0, 0));
    }

    private static void goesByTheTimesAsTheyAreThen(Due due) {
        BankTimes x = new BankTimes(0, 0, 0);
        x.check(0, 0, A, 0, 0);
        x.time(0, 40);
        due.is("40", 3, () -> x.check(0, 39, R, 0, 0));
        x.time(0, 20);
        due.is("20", 0, () -> x.check(0, 20, R, 0, 0));
        due.is("CLOSE", 0, () -> x.check(0, 22, C, 0, 0));
        x.time(3, 100);
        due.is("ACTIVATE", 0, () -> x.check(0, 25, A, 0, 0));
        due.is("READ at 20 and CLOSE", 6, () -> x.check(0, 119, C, 0, 0));
        due.is("CLOSE at 120", 0, () -> x.check(0, 120, C, 0, 0));
    }

    private static void refusesOthers(Due due) {
        int[] far = {-1, Integer.MIN_VALUE, Integer.MAX_VALUE};
        BankTimes x = new BankTimes(1, 2, 0);
        for (int f : far) {
            wrong(due, x, f, 5, A, 0, 0);
            wrong(due, x, 0, 5, f, 0, 0);
            wrong(due, x, 0, 5, A, f, 0);
            wrong(due, x, 0, 5, A, 0, f);
        }
        wrong(due, x, 2, 5, A, 0, 0);
        wrong(due, x, 0, -1, A, 0, 0);
        wrong(due, x, 0, Integer.MIN_VALUE, A, 0, 0);
        wrong(due, x, 0, 5, 5, 0, 0);
        wrong(due, x, 0, 5, A, 4, 0);
        wrong(due, x, 0, 5, A, 0, 65536);
        wrong(due, x, 0, 5, F, 1, 0);
        wrong(due, x, 0, 5, F, 0, 1);
        wrong(due, x, 0, 5, C, 0, 65536);
        due.is("the edges are fine", 0, () -> x.check(1, 0, A, 3, 65535));
        wrong(due, x, 1, 0, F, 3, 0);
    }

    private static void wrong(Due due, BankTimes x, int channel, int cycle, int kind, int bank, int row) {
        String call = "check " + channel + " " + cycle + " " + kind + " " + bank + " " + row;
        due.throwing(
                call, IllegalArgumentException.class, () -> x.check(channel, cycle, kind, bank, row));
    }

    private static void takesFarCycles(Due due) {
        BankTimes x = new BankTimes(0, 1, 0);
        int end = Integer.MAX_VALUE;
        due.is("ACTIVATE at 0", 0, () -> x.check(0, 0, A, 0, 0));
        due.is("READ one before the end", 0, () -> x.check(0, end - 1, R, 0, 0));
        due.is("too soon", 6, () -> x.check(0, end, R, 0, 0));
        due.is("ACTIVATE at the end", 0, () -> x.check(0, end, A, 1, 0));
        due.is("none behind", 1, () -> x.check(0, end, R, 0, 0));
    }
}
