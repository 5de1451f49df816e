/** Promise 9: part. */
public final class Promise09PartTest {
    public static void main(String[] args) {
        Due due = new Due();
        for (int c = 0; c < 2; c++) {
            for (int b = 0; b < 4; b++) {
                partsMakeTheAddress(due, new BankTimes(c, b, 0), c, b);
            }
        }
        refusesOthers(due);
        due.end();
    }

    private static void partsMakeTheAddress(Due due, BankTimes x, int channelBits, int bankBits) {
        int channels = 1 << channelBits;
        int banks = 1 << bankBits;
        for (int i = 0; i < 120; i++) {
            int address = i < 100 ? (int) (i * 10485L + i * 7 & 1048575) : 1048575 - (i - 100);
            int rest = address / 16;
            int channel = rest % channels;
            int bank = rest / channels % banks;
            int row = rest / channels / banks;
            due.is(address + " channel", channel, () -> x.part(address, 0));
            due.is(address + " bank", bank, () -> x.part(address, 1));
            due.is(address + " row", row, () -> x.part(address, 2));
            due.is(address + " column", address % 16, () -> x.part(address, 3));
        }
    }

    private static void refusesOthers(Due due) {
        BankTimes x = new BankTimes(0, 0, 0);
        due.is("first", 0, () -> x.part(0, 2));
        due.is("last", 65535, () -> x.part(1048575, 2));
        int[] addresses = {-1, 1048576, Integer.MIN_VALUE, Integer.MAX_VALUE};
        for (int a : addresses) {
            due.throwing("address " + a, IllegalArgumentException.class, () -> x.part(a, 0));
        }
        int[] whats = {-1, 4, Integer.MIN_VALUE, Integer.MAX_VALUE};
        for (int w : whats) {
            due.throwing("what " + w, IllegalArgumentException.class, () -> x.part(0, w));
        }
    }
}
