import java.nio.charset.StandardCharsets;

/** Brings texts onto the tape. */
final class Texts {
    private Texts() {
    }

    /** Feeds a text, twenty bytes a call, and cuts what was put behind it. */
    static void feed(WoodenTurk x, String text) {
        byte[] bytes = text.getBytes(StandardCharsets.ISO_8859_1);
        for (int i = 0; i < bytes.length; i += 20) {
            x.feed(four(bytes, i), four(bytes, i + 4), four(bytes, i + 8), four(bytes, i + 12), four(bytes, i + 16));
        }
        x.end(bytes.length);
    }

    static int read(WoodenTurk x, int k, String text) {
        feed(x, text);
        return x.text(k);
    }

    private static int four(byte[] bytes, int from) {
        int number = 0;
        for (int i = from; i < from + 4; i++) {
            number = number << 8 | (i < bytes.length ? bytes[i] & 255 : ' ');
        }
        return number;
    }
}
