/** All that the calls that ask for what is so now tell of an object, as one text. */
final class Picture {
    private Picture() {
    }

    static String of(RefreshTrader x) {
        StringBuilder text = new StringBuilder();
        for (int what = 0; what < 10; what++) {
            text.append(x.size(what)).append(' ');
        }
        text.append("undo ").append(x.size(10)).append(" settings ");
        for (int what = 0; what < 7; what++) {
            text.append(x.setting(what)).append(' ');
        }
        for (int bank = 0; bank < x.size(0); bank++) {
            addBank(text, x, bank);
        }
        for (int request = 0; request < x.size(5); request++) {
            text.append("\nrequest ");
            for (int what = 0; what < 5; what++) {
                text.append(x.request(request, what)).append(' ');
            }
        }
        text.append("\nsums ");
        for (int what = 0; what < 6; what++) {
            text.append(x.account(what)).append(' ');
        }
        text.append(x.meanWait()).append(' ').append(x.greatestWait()).append(' ').append(x.isWhole());
        return text.append(" weakest ").append(x.weakest()).toString();
    }

    private static void addBank(StringBuilder text, RefreshTrader x, int bank) {
        text.append("\nbank ");
        for (int what = 0; what < 9; what++) {
            text.append(x.bank(bank, what)).append(' ');
        }
        text.append("waiting ");
        for (int k = 0; x.waiting(bank, k) != RefreshTrader.NONE; k++) {
            text.append(x.waiting(bank, k)).append(' ');
        }
        for (int row = 0; row < x.size(1); row++) {
            text.append("\nrow ");
            for (int what = 0; what < 9; what++) {
                text.append(x.row(bank, row, what)).append(' ');
            }
        }
    }
}
