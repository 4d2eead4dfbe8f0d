/** Texts that are right, and texts with an error whose place is marked. */
final class Texts {
    static final String HEAD = "memory 2 3 10 5;";
    static final String[] SETTINGS = {"slots", "most", "ahead", "hot", "gain", "patience", "margin"};
    static final int[] LEAST = {1, 1, 0, 1, 1, 1, 0};
    static final int[] GREATEST = {4, 8, 8, 99, 20, 99, 20};
    static final int[] NOT_TOLD = {1, 4, 0, 99, 1, 20, 2};

    private Texts() {
    }

    /** A text is right. */
    static void right(String text) {
        RefreshTrader x = new RefreshTrader();
        Check.same("code of " + text, Memory.parse(x, text), 0);
        Check.same("error position of " + text, x.errorPosition(), -1);
    }

    /** A text has an error with this code, at the place of the sign ^. */
    static void bad(int code, String marked) {
        int position = marked.indexOf('^');
        String text = marked.substring(0, position) + marked.substring(position + 1);
        RefreshTrader x = new RefreshTrader();
        Check.same("code of " + marked, Memory.parse(x, text), code);
        Check.same("error position of " + marked, x.errorPosition(), position);
    }
}
