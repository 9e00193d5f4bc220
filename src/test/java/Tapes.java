/** Brings a text to the tape of a house. */
final class Tapes {
    private Tapes() {
    }

    /** Feeds the bytes of a text, twelve at a time, and trims the rest off. */
    static void feed(BudgetHouse x, String text) {
        x.trim(0);
        for (int at = 0; at < text.length(); at += 12) {
            x.feed(four(text, at), four(text, at + 4), four(text, at + 8));
        }
        x.trim(text.length());
    }

    static int text(BudgetHouse x, String text, int hour) {
        feed(x, text);
        return x.text(hour);
    }

    static int four(String text, int at) {
        int v = 0;
        for (int i = at; i < at + 4; i++) {
            v = v << 8 | (i < text.length() ? text.charAt(i) & 255 : 0);
        }
        return v;
    }
}
