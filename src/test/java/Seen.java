/** All that a memory tells without being changed, as one text: a refused call must leave it alike. */
final class Seen {
    private static final int KEPT = 512;
    private static final int PARTS = 5;
    private static final int COUNTS = 14;

    private Seen() {}

    static String of(BankTimes x) {
        StringBuilder all = new StringBuilder();
        for (int what = 0; what < COUNTS; what++) {
            all.append(x.count(what)).append(' ');
        }
        for (int channel = 0; channel < x.count(12); channel++) {
            for (int bank = 0; bank < x.count(13); bank++) {
                all.append(x.open(channel, bank)).append(' ');
            }
        }
        for (int ask = 0; ask < x.count(1); ask++) {
            all.append(x.done(ask)).append(' ');
        }
        for (int k = 0; k < Math.min(KEPT, x.count(3)); k++) {
            for (int what = 0; what < PARTS; what++) {
                all.append(x.command(k, what)).append(' ');
            }
        }
        return all.toString();
    }
}
