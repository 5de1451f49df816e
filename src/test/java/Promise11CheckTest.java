/** Promise 11: check. */
public final class Promise11CheckTest {
    private static final int A = 0;
    private static final int R = 1;
    private static final int W = 2;
    private static final int C = 3;
    private static final int F = 4;

    /** Rows of cycle, kind, bank; then the last command at its first allowed cycle; then the rule. */
    private static final int[][][] EDGES = {
        {{0, A, 0}, {3, R, 0}, {3}},
        {{0, A, 0}, {3, W, 0}, {3}},
        {{0, A, 0}, {7, C, 0}, {10, A, 0}, {4}},
        {{0, A, 0}, {7, C, 0}, {5}},
        {{0, A, 0}, {4, R, 0}, {6, R, 0}, {6}},
        {{0, A, 0}, {4, R, 0}, {6, W, 0}, {6}},
        {{0, A, 0}, {4, W, 0}, {6, W, 0}, {6}},
        {{0, A, 0}, {2, A, 1}, {6, R, 0}, {8, R, 1}, {6}},
        {{0, A, 0}, {8, R, 0}, {10, C, 0}, {6}},
        {{0, A, 0}, {2, A, 1}, {6, W, 0}, {10, R, 1}, {7}},
        {{0, A, 0}, {8, W, 0}, {13, C, 0}, {8}},
        {{0, A, 0}, {2, A, 1}, {9}},
        {{0, F, 0}, {10, A, 0}, {10}},
        {{0, F, 0}, {10, F, 0}, {10}},
        {{0, A, 0}, {2, A, 1}, {4, A, 2}, {6, A, 3}, {12, A, 4}, {11}},
        {{0, A, 0}, {6, A, 1}, {8, A, 2}, {10, A, 3}, {12, A, 4}, {18, A, 5}, {11}},
    };

    /**
     * Two times, both of which the last command breaks (only the first one is to be told); then the
     * commands before it and the last one, as rows of cycle, kind, bank.
     */
    private static final int[][][] SEVERAL = {
        {{0, 3}, {0, A, 0}, {40, A, 1}, {41, R, 0}, {42, R, 1}},
        {{0, 4}, {0, A, 0}, {40, A, 1}, {41, W, 0}, {42, R, 1}},
        {{0, 7}, {0, F, 0}, {60, A, 0}, {61, R, 0}},
        {{1, 6}, {0, A, 0}, {40, C, 0}, {41, A, 1}, {42, A, 0}},
        {{1, 7}, {0, A, 0}, {40, C, 0}, {41, F, 0}, {42, A, 0}},
        {{1, 8}, {0, A, 1}, {1, A, 2}, {2, A, 3}, {3, A, 0}, {40, C, 0}, {41, A, 0}},
        {{2, 3}, {0, A, 0}, {1, R, 0}, {2, C, 0}},
        {{2, 5}, {0, A, 0}, {1, W, 0}, {2, C, 0}},
        {{2, 7}, {0, F, 0}, {60, A, 0}, {61, C, 0}},
        {{3, 4}, {0, A, 0}, {40, W, 0}, {41, R, 0}},
        {{3, 5}, {0, A, 0}, {40, W, 0}, {41, R, 0}, {42, C, 0}},
        {{3, 7}, {0, F, 0}, {60, A, 0}, {61, R, 0}, {62, R, 0}},
        {{4, 7}, {0, F, 0}, {60, A, 0}, {61, W, 0}, {62, R, 0}},
        {{5, 7}, {0, F, 0}, {60, A, 0}, {61, W, 0}, {62, C, 0}},
        {{6, 7}, {0, F, 0}, {60, A, 0}, {61, A, 1}},
        {{6, 8}, {0, A, 0}, {1, A, 1}, {2, A, 2}, {3, A, 3}, {4, A, 4}},
        {{7, 8}, {0, A, 0}, {1, A, 1}, {2, A, 2}, {3, A, 3},
            {10, C, 0}, {11, C, 1}, {12, C, 2}, {13, C, 3}, {14, F, 0}, {15, A, 4}},
    };

    public static void main(String[] args) {
        Due due = new Due();
        for (int[][] edge : EDGES) {
            timesBindToTheCycle(due, edge);
        }
        timesThatDoNotBind(due);
        theLowestOfSeveralIsTold(due);
        for (int[][] several : SEVERAL) {
            theLowestOfTwoIsTold(due, several);
        }
        theFirstRuleIsTold(due);
        cyclesMustGrow(due);
        banksMustFit(due);
        refusedOnesAreNotTaken(due);
        channelsAreApart(due);
        goesByTheTimesAsTheyAreThen(due);
        takesTheEdges(due);
        refusesAChannelThatIsNotThere(due);
        refusesAKindThatIsNotThere(due);
        refusesABankThatIsNotThere(due);
        refusesARefreshWithBankOrRow(due);
        refusesACycleBelowZero(due);
        refusesARowThatIsNotThere(due);
        refusesBeforeAnyRule(due);
        takesFarCycles(due);
        due.end();
    }

    private static void timesBindToTheCycle(Due due, int[][] edge) {
        BankTimes x = new BankTimes(0, 3, 0);
        int last = edge.length - 2;
        for (int i = 0; i < last; i++) {
            int[] c = edge[i];
            due.is("before the edge", 0, () -> x.check(0, c[0], c[1], c[2], 0));
        }
        int[] c = edge[last];
        int rule = edge[last + 1][0];
        due.is("rule " + rule, rule, () -> x.check(0, c[0] - 1, c[1], c[2], 0));
        due.is("at the edge of " + rule, 0, () -> x.check(0, c[0], c[1], c[2], 0));
    }

    private static void timesThatDoNotBind(Due due) {
        BankTimes x = new BankTimes(0, 3, 0);
        x.check(0, 0, A, 0, 0);
        x.check(0, 2, A, 1, 0);
        x.check(0, 8, W, 0, 0);
        due.is("WRITE of another bank and CLOSE", 0, () -> x.check(0, 9, C, 1, 0));
        due.is("CLOSE of another bank and ACTIVATE", 0, () -> x.check(0, 10, A, 2, 0));
        x.check(0, 17, C, 0, 0);
        due.is("CLOSE of the last and REFRESH is soon", 0, () -> x.check(0, 18, C, 2, 0));
        due.is("CLOSE and REFRESH", 0, () -> x.check(0, 19, F, 0, 0));
    }

    private static void theLowestOfSeveralIsTold(Due due) {
        BankTimes x = new BankTimes(0, 0, 0);
        x.check(0, 0, A, 0, 4);
        x.check(0, 3, W, 0, 4);
        due.is("3 and 4", 6, () -> x.check(0, 4, R, 0, 4));
        due.is("4 alone", 7, () -> x.check(0, 5, R, 0, 4));
        due.is("2 and 5", 5, () -> x.check(0, 6, C, 0, 4));
        due.is("5 alone", 8, () -> x.check(0, 7, C, 0, 4));
        due.is("rule 1 before 2", 1, () -> x.check(0, 3, A, 0, 4));
        due.is("rule 2 before times", 2, () -> x.check(0, 4, R, 0, 5));
        due.is("CLOSE", 0, () -> x.check(0, 8, C, 0, 4));
        due.is("REFRESH", 0, () -> x.check(0, 9, F, 0, 0));
        due.is("1 and 7", 4, () -> x.check(0, 10, A, 0, 4));
        due.is("7 alone", 10, () -> x.check(0, 11, A, 0, 4));
    }

    /** All times are 1 while the commands before come, so that none of these is held. */
    private static void theLowestOfTwoIsTold(Due due, int[][] several) {
        int low = several[0][0];
        int high = several[0][1];
        BankTimes x = new BankTimes(0, 3, 0);
        for (int what = 0; what < 9; what++) {
            x.time(what, 1);
        }
        int last = several.length - 1;
        for (int i = 1; i < last; i++) {
            int[] c = several[i];
            due.is("before " + low + " " + high, 0, () -> x.check(0, c[0], c[1], c[2], 0));
        }
        int[] c = several[last];
        x.time(low, 100);
        x.time(high, 100);
        due.is(low + " and " + high, 3 + low, () -> x.check(0, c[0], c[1], c[2], 0));
        x.time(low, 1);
        due.is(high + " alone", 3 + high, () -> x.check(0, c[0], c[1], c[2], 0));
        x.time(high, 1);
        due.is("none of " + low + " " + high, 0, () -> x.check(0, c[0], c[1], c[2], 0));
    }

    private static void theFirstRuleIsTold(Due due) {
        BankTimes x = new BankTimes(0, 1, 0);
        due.is("rule 2 alone", 2, () -> x.check(0, 0, R, 0, 0));
        due.is("ACTIVATE", 0, () -> x.check(0, 5, A, 0, 7));
        due.is("1 before 2, same cycle", 1, () -> x.check(0, 5, A, 0, 7));
        due.is("1 before 2, READ of none", 1, () -> x.check(0, 5, R, 1, 7));
        due.is("1 before 2, another row", 1, () -> x.check(0, 4, W, 0, 8));
        due.is("1 before 2, CLOSE of none", 1, () -> x.check(0, 0, C, 1, 7));
        due.is("1 before 2, REFRESH", 1, () -> x.check(0, 5, F, 0, 0));
        due.is("1 before times", 1, () -> x.check(0, 5, R, 0, 7));
        due.is("2 before times, ACTIVATE", 2, () -> x.check(0, 6, A, 0, 7));
        due.is("2 before times, another row", 2, () -> x.check(0, 6, R, 0, 8));
        due.is("2 before times, another row", 2, () -> x.check(0, 6, W, 0, 6));
        due.is("2, CLOSE of none", 2, () -> x.check(0, 6, C, 1, 7));
        due.is("2, REFRESH", 2, () -> x.check(0, 6, F, 0, 0));
        due.is("times at last", 3, () -> x.check(0, 6, R, 0, 7));
        due.is("CLOSE", 0, () -> x.check(0, 12, C, 0, 0));
        due.is("REFRESH", 0, () -> x.check(0, 13, F, 0, 0));
        due.is("2 before time 7, READ", 2, () -> x.check(0, 14, R, 0, 7));
        due.is("2 before time 7, WRITE", 2, () -> x.check(0, 14, W, 0, 7));
        due.is("2 before time 7, CLOSE", 2, () -> x.check(0, 14, C, 0, 7));
        due.is("time 7, REFRESH", 10, () -> x.check(0, 14, F, 0, 0));
        due.is("1 before time 7", 1, () -> x.check(0, 13, F, 0, 0));
    }

    private static void cyclesMustGrow(Due due) {
        BankTimes x = new BankTimes(0, 1, 0);
        due.is("first at 0", 0, () -> x.check(0, 0, A, 0, 0));
        due.is("same", 1, () -> x.check(0, 0, A, 1, 0));
        due.is("later", 0, () -> x.check(0, 50, A, 1, 0));
        due.is("same again", 1, () -> x.check(0, 50, R, 0, 0));
        due.is("earlier", 1, () -> x.check(0, 49, R, 0, 0));
        due.is("just later", 0, () -> x.check(0, 51, R, 0, 0));
    }

    private static void banksMustFit(Due due) {
        BankTimes x = new BankTimes(0, 1, 0);
        due.is("READ, none open", 2, () -> x.check(0, 100, R, 0, 0));
        due.is("WRITE, none open", 2, () -> x.check(0, 100, W, 0, 0));
        due.is("CLOSE, none open", 2, () -> x.check(0, 100, C, 0, 0));
        due.is("REFRESH, none open", 0, () -> x.check(0, 100, F, 0, 0));
        due.is("ACTIVATE", 0, () -> x.check(0, 200, A, 1, 65535));
        due.is("ACTIVATE again", 2, () -> x.check(0, 300, A, 1, 65535));
        due.is("READ, another row", 2, () -> x.check(0, 300, R, 1, 65534));
        due.is("WRITE, another row", 2, () -> x.check(0, 300, W, 1, 0));
        due.is("READ, another bank", 2, () -> x.check(0, 300, R, 0, 65535));
        due.is("REFRESH, one open", 2, () -> x.check(0, 300, F, 0, 0));
        due.is("READ", 0, () -> x.check(0, 300, R, 1, 65535));
        due.is("WRITE", 0, () -> x.check(0, 400, W, 1, 65535));
        due.is("CLOSE, whatever row", 0, () -> x.check(0, 500, C, 1, 7));
        due.is("CLOSE again", 2, () -> x.check(0, 600, C, 1, 65535));
        due.is("REFRESH, closed", 0, () -> x.check(0, 600, F, 0, 0));
    }

    private static void refusedOnesAreNotTaken(Due due) {
        BankTimes x = new BankTimes(0, 1, 0);
        x.check(0, 10, A, 0, 1);
        due.is("too soon", 9, () -> x.check(0, 11, A, 1, 1));
        due.is("bank 1 is not open", 2, () -> x.check(0, 90, R, 1, 1));
        due.is("cycle 90 was not", 0, () -> x.check(0, 13, R, 0, 1));
        due.is("REFRESH", 2, () -> x.check(0, 80, F, 0, 0));
        due.is("no REFRESH was", 0, () -> x.check(0, 15, A, 1, 1));
    }

    private static void channelsAreApart(Due due) {
        BankTimes x = new BankTimes(1, 1, 0);
        due.is("channel 0", 0, () -> x.check(0, 10, F, 0, 0));
        due.is("channel 1", 0, () -> x.check(1, 0, A, 0, 3));
        due.is("channel 1 again", 0, () -> x.check(1, 3, R, 0, 3));
        due.is("channel 0 again", 0, () -> x.check(0, 20, A, 0, 3));
        due.is("channel 1 REFRESH", 2, () -> x.check(1, 20, F, 0, 0));
    }

    private static void goesByTheTimesAsTheyAreThen(Due due) {
        BankTimes x = new BankTimes(0, 0, 0);
        x.check(0, 0, A, 0, 0);
        x.time(0, 40);
        due.is("40", 3, () -> x.check(0, 39, R, 0, 0));
        x.time(0, 20);
        due.is("20", 0, () -> x.check(0, 20, R, 0, 0));
        due.is("CLOSE", 0, () -> x.check(0, 22, C, 0, 0));
        x.time(3, 100);
        due.is("ACTIVATE", 0, () -> x.check(0, 25, A, 0, 0));
        due.is("READ at 20 and CLOSE", 6, () -> x.check(0, 119, C, 0, 0));
        due.is("CLOSE at 120", 0, () -> x.check(0, 120, C, 0, 0));
    }

    private static void takesTheEdges(Due due) {
        for (int shape = 0; shape < 8; shape++) {
            BankTimes x = new BankTimes(shape & 1, shape >> 1, 0);
            int channel = x.count(12) - 1;
            int bank = x.count(13) - 1;
            due.is("the last of all", 0, () -> x.check(channel, 0, A, bank, 65535));
            due.is("its row", 0, () -> x.check(channel, 3, R, bank, 65535));
            due.is("the row below it", 2, () -> x.check(channel, 5, R, bank, 65534));
            due.is("CLOSE", 0, () -> x.check(channel, 7, C, bank, 65535));
            due.is("REFRESH", 0, () -> x.check(channel, 8, F, 0, 0));
        }
    }

    private static void refusesAChannelThatIsNotThere(Due due) {
        int[] none = {-1, 2, 3, Integer.MIN_VALUE, Integer.MAX_VALUE};
        BankTimes one = new BankTimes(0, 2, 0);
        BankTimes two = new BankTimes(1, 2, 0);
        for (int kind = 0; kind < 5; kind++) {
            wrong(due, one, 1, 5, kind, 0, 0);
            for (int c : none) {
                wrong(due, one, c, 5, kind, 0, 0);
                wrong(due, two, c, 5, kind, 0, 0);
            }
        }
        nothingWasTaken(due, one);
        nothingWasTaken(due, two);
    }

    private static void refusesAKindThatIsNotThere(Due due) {
        int[] none = {-1, 5, 6, -5, Integer.MIN_VALUE, Integer.MAX_VALUE};
        BankTimes x = new BankTimes(1, 2, 0);
        for (int k : none) {
            wrong(due, x, 0, 5, k, 0, 0);
            wrong(due, x, 1, 5, k, 3, 65535);
        }
        nothingWasTaken(due, x);
    }

    private static void refusesABankThatIsNotThere(Due due) {
        int[] none = {-1, 8, 9, Integer.MIN_VALUE, Integer.MAX_VALUE};
        for (int banks = 0; banks < 4; banks++) {
            BankTimes x = new BankTimes(0, banks, 0);
            for (int kind = 0; kind < 5; kind++) {
                wrong(due, x, 0, 5, kind, 1 << banks, 0);
                for (int b : none) {
                    wrong(due, x, 0, 5, kind, b, 0);
                }
            }
            nothingWasTaken(due, x);
        }
    }

    private static void refusesARefreshWithBankOrRow(Due due) {
        BankTimes x = new BankTimes(1, 3, 0);
        for (int bank = 0; bank < 8; bank++) {
            wrong(due, x, 0, 5, F, bank, 1);
            wrong(due, x, 1, 5, F, bank, 65535);
            if (bank > 0) {
                wrong(due, x, 1, 5, F, bank, 0);
            }
        }
        nothingWasTaken(due, x);
        due.is("bank and row are 0", 0, () -> x.check(1, 5, F, 0, 0));
    }

    private static void refusesACycleBelowZero(Due due) {
        int[] below = {-1, -2, -100, Integer.MIN_VALUE};
        BankTimes x = new BankTimes(0, 2, 0);
        for (int kind = 0; kind < 5; kind++) {
            for (int cycle : below) {
                wrong(due, x, 0, cycle, kind, 0, 0);
            }
        }
        nothingWasTaken(due, x);
    }

    private static void refusesARowThatIsNotThere(Due due) {
        int[] none = {-1, 65536, 65537, -65536, Integer.MIN_VALUE, Integer.MAX_VALUE};
        BankTimes x = new BankTimes(0, 2, 0);
        for (int kind = 0; kind < 5; kind++) {
            for (int row : none) {
                wrong(due, x, 0, 5, kind, 0, row);
            }
        }
        nothingWasTaken(due, x);
    }

    /** A call with a wrong argument that would break a rule as well throws. */
    private static void refusesBeforeAnyRule(Due due) {
        BankTimes x = new BankTimes(0, 1, 0);
        due.is("ACTIVATE", 0, () -> x.check(0, 50, A, 0, 7));
        wrong(due, x, 0, 50, A, 2, 7);
        wrong(due, x, 0, 49, R, 0, 65536);
        wrong(due, x, 0, 50, F, 1, 0);
        wrong(due, x, 0, 51, F, 0, 1);
        wrong(due, x, 0, 51, C, -1, 0);
        wrong(due, x, 1, 51, R, 0, 7);
        wrong(due, x, 0, 51, 5, 0, 7);
        wrong(due, x, 0, -1, R, 0, 7);
        due.is("it goes on as if none had come", 3, () -> x.check(0, 52, R, 0, 7));
        due.is("READ", 0, () -> x.check(0, 53, R, 0, 7));
    }

    private static void nothingWasTaken(Due due, BankTimes x) {
        for (int channel = 0; channel < x.count(12); channel++) {
            int c = channel;
            due.is("none open", 2, () -> x.check(c, 0, C, 0, 0));
            due.is("REFRESH at 0, the first of all", 0, () -> x.check(c, 0, F, 0, 0));
        }
        x.begin();
    }

    private static void wrong(Due due, BankTimes x, int channel, int cycle, int kind, int bank, int row) {
        String call = "check " + channel + " " + cycle + " " + kind + " " + bank + " " + row;
        due.throwing(
                call, IllegalArgumentException.class, () -> x.check(channel, cycle, kind, bank, row));
    }

    private static void takesFarCycles(Due due) {
        BankTimes x = new BankTimes(0, 1, 0);
        int end = Integer.MAX_VALUE;
        due.is("ACTIVATE at 0", 0, () -> x.check(0, 0, A, 0, 0));
        due.is("READ one before the end", 0, () -> x.check(0, end - 1, R, 0, 0));
        due.is("too soon", 6, () -> x.check(0, end, R, 0, 0));
        due.is("ACTIVATE at the end", 0, () -> x.check(0, end, A, 1, 0));
        due.is("none behind", 1, () -> x.check(0, end, R, 0, 0));
    }
}
