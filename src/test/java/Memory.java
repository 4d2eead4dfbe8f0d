import java.nio.charset.StandardCharsets;

/** Gives texts to objects of RefreshTrader. */
final class Memory {
    private Memory() {
    }

    /** A memory as a text that is right says. */
    static RefreshTrader of(String text) {
        RefreshTrader x = new RefreshTrader();
        int code = parse(x, text);
        if (code != 0) {
            throw new AssertionError("code " + code + " at " + x.errorPosition() + ": " + text);
        }
        return x;
    }

    static int parse(RefreshTrader x, String text) {
        byte[] bytes = text.getBytes(StandardCharsets.ISO_8859_1);
        fill(x, bytes);
        return x.parse(bytes.length);
    }

    /** Appends the bytes, and blanks up to the next 20. */
    static int fill(RefreshTrader x, byte[] bytes) {
        int length = 0;
        for (int i = 0; i < bytes.length; i += 20) {
            length = x.append(word(bytes, i), word(bytes, i + 4), word(bytes, i + 8),
                    word(bytes, i + 12), word(bytes, i + 16));
        }
        return length;
    }

    /** Lets ticks pass up to a time, be it more than one call may. */
    static void passTo(RefreshTrader x, int time) {
        while (x.size(4) < time) {
            x.pass(Math.min(200, time - x.size(4)));
        }
    }

    private static int word(byte[] bytes, int from) {
        int word = 0;
        for (int i = from; i < from + 4; i++) {
            word = word << 8 | (i < bytes.length ? bytes[i] & 255 : 32);
        }
        return word;
    }
}
