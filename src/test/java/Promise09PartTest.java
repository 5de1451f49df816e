/** Promise 9: part. */
public final class Promise09PartTest {
    public static void main(String[] args) {
        Due due = new Due();
        for (int c = 0; c < 2; c++) {
            for (int b = 0; b < 4; b++) {
                partsMakeTheAddress(due, new BankTimes(c, b, 0), c, b);
            }
        }
        partsThatHaveNoBits(due);
        theFirstAndTheLastAddress(due);
        refusesWrongAddresses(due);
        refusesAnotherWhat(due);
        due.end();
    }

    private static void partsMakeTheAddress(Due due, BankTimes x, int channelBits, int bankBits) {
        int channels = 1 << channelBits;
        int banks = 1 << bankBits;
        for (int i = 0; i < 120; i++) {
            int address = i < 100 ? (int) (i * 10485L + i * 7 & 1048575) : 1048575 - (i - 100);
            int rest = address / 16;
            int channel = rest % channels;
            int bank = rest / channels % banks;
            int row = rest / channels / banks;
            due.is(address + " channel", channel, () -> x.part(address, 0));
            due.is(address + " bank", bank, () -> x.part(address, 1));
            due.is(address + " row", row, () -> x.part(address, 2));
            due.is(address + " column", address % 16, () -> x.part(address, 3));
        }
    }

    private static void partsThatHaveNoBits(Due due) {
        BankTimes x = new BankTimes(0, 0, 0);
        for (int bit = 0; bit < 20; bit++) {
            int address = 1 << bit;
            due.is("no channel bits", 0, () -> x.part(address, 0));
            due.is("no bank bits", 0, () -> x.part(address, 1));
            due.is("the row is the rest", address >> 4, () -> x.part(address, 2));
            due.is("four column bits", address & 15, () -> x.part(address, 3));
        }
    }

    private static void theFirstAndTheLastAddress(Due due) {
        for (int shape = 0; shape < 8; shape++) {
            BankTimes x = new BankTimes(shape & 1, shape >> 1, 0);
            int bits = (shape & 1) + (shape >> 1);
            int[] last = {x.count(12) - 1, x.count(13) - 1, 65535 >> bits, 15};
            for (int what = 0; what < 4; what++) {
                int w = what;
                due.is("first " + w, 0, () -> x.part(0, w));
                due.is("last " + w, last[w], () -> x.part(1048575, w));
            }
        }
    }

    private static void refusesWrongAddresses(Due due) {
        int[] wrong = {-1, 1048576, -1048576, 1 << 21, Integer.MIN_VALUE, Integer.MAX_VALUE};
        for (int shape = 0; shape < 8; shape++) {
            BankTimes x = new BankTimes(shape & 1, shape >> 1, 0);
            for (int a : wrong) {
                for (int what = -1; what <= 4; what++) {
                    int w = what;
                    String call = "part " + a + " " + w;
                    due.throwing(call, IllegalArgumentException.class, () -> x.part(a, w));
                }
            }
        }
    }

    private static void refusesAnotherWhat(Due due) {
        int[] others = {-1, 4, 5, -4, Integer.MIN_VALUE, Integer.MAX_VALUE};
        for (int shape = 0; shape < 8; shape++) {
            BankTimes x = new BankTimes(shape & 1, shape >> 1, 0);
            for (int w : others) {
                due.throwing("what " + w, IllegalArgumentException.class, () -> x.part(0, w));
                due.throwing("of " + w, IllegalArgumentException.class, () -> x.part(1048575, w));
            }
        }
    }
}
